/-! run: the reference's join of the two topmost -/
theorem put_loop {N : Nat} {q : Qd} {l r x y xa ya c : Nat} (hl : l < 16) (hr : r < 16) (h0 : l &&& r = 0) (hx : Vc q l x) (hy : Vc q r y) (hxa : xa + 4 ≤ 414720) (hya : ya + 4 ≤ 414720) (hc : c < 20736) (K : MSt → Int32 → Int32 → Int32 → Int32 → Int32 → Int32 → Option MSt) (x1 x2 x3 x5 x6 : Int32) : ∀ (n m k : Nat) (τ : MSt), k + m = 4 → m < n → (∀ j, j < 4 → τ.2.2.1 29 (xa + j) = dg4 l x j) → (∀ j, j < 4 → τ.2.2.1 29 (ya + j) = dg4 r y j) → (∀ j, j < k → τ.2.2.1 35 (4 * c + j) = dg4 (l ||| r) (x ||| y) j) → ∃ τ', fM_joinTop_L92 N K n τ x1 x2 x3 (nI c) x5 x6 (nI xa) (nI ya) (nI k) = K τ' x1 x2 x3 (nI c) x5 x6 ∧ F1 35 τ τ' ∧ (∀ j, j < 4 * c → τ'.2.2.1 35 j = τ.2.2.1 35 j) ∧ ∀ j, j < 4 → τ'.2.2.1 35 (4 * c + j) = dg4 (l ||| r) (x ||| y) j := by
  intro n
  induction n with
  | zero => intro m k τ _ h; omega
  | succ n ih =>
    intro m k τ hk hn sx sy hd
    rw [fM_joinTop_L92]
    cases m with
    | zero =>
      rw [if_pos (show (4 : Int32) ≤ nI k from nI_le (a := 4) (by omega) (by omega))]
      exact ⟨τ, rfl, F1.refl _ τ, fun _ _ => rfl, fun j hj => hd j (by omega)⟩
    | succ m =>
      have hk4 : k < 4 := by omega
      rw [if_neg (show ¬ (4 : Int32) ≤ nI k from nI_ge (b := 4) (by omega) (by omega)), nI_add, nI_add, chk_nI (by omega) (by omega), nI_cl (by omega), sx k hk4, chk_nI (by omega) (by omega), chk_nI (by omega) (by omega), nI_cl (by omega), sy k hk4, show (4 : Int32) = nI 4 from rfl, nI_mul, nI_add, chk_nI (by omega) (by omega), chk_nI (by omega) (by omega), nI_cl (by omega), nI_1]
      have main : ∀ v : Int32, v = dg4 (l ||| r) (x ||| y) k → ∃ τ', fM_joinTop_L92 N K n (sA τ 35 (4 * c + k) v) x1 x2 x3 (nI c) x5 x6 (nI xa) (nI ya) (nI (k + 1)) = K τ' x1 x2 x3 (nI c) x5 x6 ∧ F1 35 τ τ' ∧ (∀ j, j < 4 * c → τ'.2.2.1 35 j = τ.2.2.1 35 j) ∧ ∀ j, j < 4 → τ'.2.2.1 35 (4 * c + j) = dg4 (l ||| r) (x ||| y) j := by
        intro v hv
        have f1 := F1_sA τ 35 (4 * c + k) v
        obtain ⟨τ', a1, a2, a3, a4⟩ := ih m (k + 1) (sA τ 35 (4 * c + k) v) (by omega) (by omega) (fun j hj => by rw [f1.2.2.1 29 (by omega)]; exact sx j hj) (fun j hj => by rw [f1.2.2.1 29 (by omega)]; exact sy j hj) (by
          intro j hj
          rw [sA_3, if_pos rfl, upd_at]
          by_cases g : j = k
          · rw [if_pos (by omega), g, hv]
          · rw [if_neg (by omega)]; exact hd j (by omega))
        refine ⟨τ', a1, f1.trans a2, fun j hj => ?_, a4⟩
        rw [a3 j hj, sA_3, if_pos rfl, upd_at, if_neg (by omega)]
      have ho := dg4_or hl hr h0 hx hy hk4
      by_cases g : l / 2 ^ k % 2 = 1
      · rw [if_neg (fun h => (dg4_neg hx hk4).mp h g)]
        rw [if_pos g] at ho
        exact main _ ho.symm
      · rw [if_pos ((dg4_neg hx hk4).mpr g)]
        rw [if_neg g] at ho
        exact main _ ho.symm
theorem MV_snoc {τ τ' : MSt} {S : Nat} {Acc : List Nat} {z : Nat} (h : MV τ S Acc.length Acc) (h1 : ∀ j, j < 4 * Acc.length → τ'.2.2.1 35 j = τ.2.2.1 35 j) (h2 : ∀ j, j < 4 → τ'.2.2.1 35 (4 * Acc.length + j) = dg4 S z j) : MV τ' S (Acc ++ [z]).length (Acc ++ [z]) := by
  intro i v k hi hv hk
  rw [List.length_append, List.length_singleton] at hi
  by_cases g : i = Acc.length
  · rw [g] at hv ⊢
    rw [List.getElem?_append_right (Nat.le_refl _), Nat.sub_self] at hv
    have : z = v := by simpa using hv
    rw [← this]
    exact h2 k hk
  · rw [List.getElem?_append_left (by omega)] at hv
    rw [h1 _ (by omega)]
    exact h i v k (by omega) hv hk
theorem MV_F1 {τ τ' : MSt} {r : Nat} (hr : r ≠ 35) (h : F1 r τ τ') {S n : Nat} {L : List Nat} (hM : MV τ S n L) : MV τ' S n L := fun i v k hi hv hk => by rw [h.2.2.1 35 (fun e => hr e.symm)]; exact hM i v k hi hv hk
theorem mj_in {N : Nat} (hN : 20 ≤ N) {q : Qd} (hq : WfQ q) {l r d i x : Nat} {R : List Nat} (hd : d < 4) (hl : l < 16) (hr : r < 16) (h0 : l &&& r = 0) (hx : Vc q l x) (hR : ∀ y, y ∈ R → Vc q r y) (hRl : R.length ≤ 4096) (hi : i < 4096) (K : MSt → Int32 → Int32 → Int32 → Int32 → Int32 → Option MSt) (x1 : Int32) : ∀ (n m j : Nat) (Acc : List Nat) (τ : MSt), j + m = R.length → m < n → MQd q τ → τ.2.2.1 30 d = nI R.length → τ.2.2.1 31 (d + 1) = nI l → τ.2.2.1 31 d = nI r → (∀ k, k < 4 → τ.2.2.1 29 (82944 * (d + 1) + 4 * i + k) = dg4 l x k) → ML τ (82944 * d) r R → MV τ (l ||| r) Acc.length Acc → Acc.length + m ≤ 4096 → ∃ τ', fM_joinTop_L34 N K n τ x1 (nI (d + 1)) (nI d) (nI Acc.length) (nI i) (nI j) = K τ' x1 (nI (d + 1)) (nI d) (nI (Acc ++ jx q l r x (R.drop j)).length) (nI i) ∧ F1 35 τ τ' ∧ MV τ' (l ||| r) (Acc ++ jx q l r x (R.drop j)).length (Acc ++ jx q l r x (R.drop j)) := by
  intro n
  induction n with
  | zero => intro m j Acc τ _ h; omega
  | succ n ih =>
    intro m j Acc τ hj hn hM h30 h31l h31r sx hML hMV hlen
    rw [fM_joinTop_L34, chk_nI (by omega) (by omega), nI_cl (by omega), h30]
    cases m with
    | zero =>
      rw [if_pos (nI_le (by omega) (by omega)), List.drop_eq_nil_of_le (by omega)]
      have e : jx q l r x [] = [] := rfl
      rw [e, List.append_nil]
      exact ⟨τ, rfl, F1.refl _ τ, hMV⟩
    | succ m =>
      obtain ⟨y, hy, hd2⟩ := drop_at (A := R) (j := j) (by omega)
      have vy := hR y (List.mem_of_getElem? hy)
      unfold fM_spot
      have hf := fits_M (N := N) hN hq hM hl hr h0 hx vy (xa := 82944 * (d + 1) + 4 * i) (ya := 82944 * d + 4 * j) (by omega) (by omega) sx (fun k hk => hML j y k hy hk) N (qP q) 0 (by omega) (by have := hq.2.1; omega) (fun p' h => by omega)
      rw [nI_0] at hf
      rw [if_neg (nI_ge (by omega) (by omega)), bs, bs, show (82944 : Int32) = nI 82944 from rfl, show (4 : Int32) = nI 4 from rfl, nI_mul, nI_mul, nI_mul, nI_mul, nI_add, nI_add, chk_nI (by omega) (by omega), chk_nI (by omega) (by omega), nI_cl (by omega), h31l, h31r]
      unfold fM_fits
      rw [hf, bs, hd2]
      by_cases c : hbB q l r (x ||| y) = true
      · have ej : jx q l r x (y :: R.drop (j + 1)) = (x ||| y) :: jx q l r x (R.drop (j + 1)) := by
          unfold jx
          rw [List.filter_cons, if_pos c]
          rfl
        rw [if_pos c, if_neg n10, ej]
        obtain ⟨τ1, a1, a2, a3, a4⟩ := put_loop (N := N) hl hr h0 hx vy (xa := 82944 * (d + 1) + 4 * i) (ya := 82944 * d + 4 * j) (c := Acc.length) (by omega) (by omega) (by omega) (fun (σ : MSt) (x1 : Int32) (x2 : Int32) (x3 : Int32) (x4 : Int32) (x5 : Int32) (x6 : Int32) => fM_joinTop_L34 N K n σ x1 x2 x3 (x4 + 1) x5 (x6 + 1)) x1 (nI (d + 1)) (nI d) (nI i) (nI j) N 4 0 τ (by omega) (by omega) sx (fun k hk => hML j y k hy hk) (fun j hj => by omega)
        rw [nI_0] at a1
        rw [a1, nI_1, nI_1]
        obtain ⟨τ2, b1, b2, b3⟩ := ih m (j + 1) (Acc ++ [x ||| y]) τ1 (by omega) (by omega) (MQd_HR ⟨fun k _ => by rw [a2.1], fun k hk => a2.2.2.1 k (by omega)⟩ hM) (by rw [a2.2.2.1 30 (by omega)]; exact h30) (by rw [a2.2.2.1 31 (by omega)]; exact h31l) (by rw [a2.2.2.1 31 (by omega)]; exact h31r) (fun k hk => by rw [a2.2.2.1 29 (by omega)]; exact sx k hk) (fun i v k hi hk => by rw [a2.2.2.1 29 (by omega)]; exact hML i v k hi hk) (MV_snoc hMV a3 a4) (by rw [List.length_append, List.length_singleton]; omega)
        rw [List.length_append, List.length_singleton] at b1
        refine ⟨τ2, ?_, a2.trans b2, ?_⟩
        · rw [b1, List.append_assoc]; rfl
        · rw [List.append_assoc] at b3; exact b3
      · have ej : jx q l r x (y :: R.drop (j + 1)) = jx q l r x (R.drop (j + 1)) := by
          unfold jx
          rw [List.filter_cons, if_neg c]
        rw [if_neg c, if_pos rfl, ej, nI_1]
        exact ih m (j + 1) Acc τ (by omega) (by omega) hM h30 h31l h31r sx hML hMV (by omega)
theorem mj_out {N : Nat} (hN : 5000 ≤ N) {q : Qd} (hq : WfQ q) {l r d : Nat} {L R : List Nat} (hd : d < 4) (hl : l < 16) (hr : r < 16) (h0 : l &&& r = 0) (hL : ∀ x, x ∈ L → Vc q l x) (hR : ∀ y, y ∈ R → Vc q r y) (hRl : R.length ≤ 4096) (hLl : L.length ≤ 4096) (K : MSt → Int32 → Int32 → Int32 → Int32 → Option MSt) (x1 : Int32) : ∀ (n m i : Nat) (Acc : List Nat) (τ : MSt), i + m = L.length → m < n → MQd q τ → τ.2.2.1 30 (d + 1) = nI L.length → τ.2.2.1 30 d = nI R.length → τ.2.2.1 31 (d + 1) = nI l → τ.2.2.1 31 d = nI r → ML τ (82944 * (d + 1)) l L → ML τ (82944 * d) r R → MV τ (l ||| r) Acc.length Acc → Acc.length + m * R.length ≤ 4096 → ∃ τ', fM_joinTop_L20 N K n τ x1 (nI (d + 1)) (nI d) (nI Acc.length) (nI i) = K τ' x1 (nI (d + 1)) (nI d) (nI (Acc ++ JJ q l r (L.drop i) R).length) ∧ F1 35 τ τ' ∧ MV τ' (l ||| r) (Acc ++ JJ q l r (L.drop i) R).length (Acc ++ JJ q l r (L.drop i) R) := by
  intro n
  induction n with
  | zero => intro m i Acc τ _ h; omega
  | succ n ih =>
    intro m i Acc τ hi hn hM h30l h30r h31l h31r hMl hMr hMV hlen
    rw [fM_joinTop_L20, chk_nI (by omega) (by omega), nI_cl (by omega), h30l]
    cases m with
    | zero =>
      rw [if_pos (nI_le (by omega) (by omega)), List.drop_eq_nil_of_le (by omega)]
      have e : JJ q l r [] R = [] := rfl
      rw [e, List.append_nil]
      exact ⟨τ, rfl, F1.refl _ τ, hMV⟩
    | succ m =>
      obtain ⟨x, hx, hd2⟩ := drop_at (A := L) (j := i) (by omega)
      rw [Nat.succ_mul] at hlen
      rw [if_neg (nI_ge (by omega) (by omega))]
      obtain ⟨τ1, a1, a2, a3⟩ := mj_in (N := N) (by omega) hq hd hl hr h0 (hL x (List.mem_of_getElem? hx)) hR hRl (show i < 4096 by omega) (fun (σ : MSt) (x1 : Int32) (x2 : Int32) (x3 : Int32) (x4 : Int32) (x5 : Int32) => fM_joinTop_L20 N K n σ x1 x2 x3 x4 (x5 + 1)) x1 N R.length 0 Acc τ (by omega) (by omega) hM h30r h31l h31r (fun k hk => hMl i x k hx hk) hMr hMV (by omega)
      rw [nI_0] at a1
      rw [List.drop_zero] at a1 a3
      rw [a1, nI_1, hd2]
      have hjl := jx_len q l r x R
      obtain ⟨τ2, b1, b2, b3⟩ := ih m (i + 1) (Acc ++ jx q l r x R) τ1 (by omega) (by omega) (MQd_HR ⟨fun k _ => by rw [a2.1], fun k hk => a2.2.2.1 k (by omega)⟩ hM) (by rw [a2.2.2.1 30 (by omega)]; exact h30l) (by rw [a2.2.2.1 30 (by omega)]; exact h30r) (by rw [a2.2.2.1 31 (by omega)]; exact h31l) (by rw [a2.2.2.1 31 (by omega)]; exact h31r) (fun i v k hi hk => by rw [a2.2.2.1 29 (by omega)]; exact hMl i v k hi hk) (fun i v k hi hk => by rw [a2.2.2.1 29 (by omega)]; exact hMr i v k hi hk) a3 (by rw [List.length_append]; omega)
      have e : JJ q l r (x :: L.drop (i + 1)) R = jx q l r x R ++ JJ q l r (L.drop (i + 1)) R := rfl
      refine ⟨τ2, ?_, a2.trans b2, ?_⟩
      · rw [e, ← List.append_assoc]
        exact b1
      · rw [e, ← List.append_assoc]
        exact b3
theorem cp_loop {N : Nat} {d n4 : Nat} (hd : d < 5) (h4 : n4 ≤ 4096) (K : MSt → Int32 → Int32 → Option MSt) (x1 x5 : Int32) : ∀ (n m k : Nat) (τ : MSt), k + m = 4 * n4 → m < n → ∃ τ', fM_joinTop_L264 N K n τ x1 (nI d) (nI n4) x5 (nI k) = K τ' x1 x5 ∧ F1 29 τ τ' ∧ (∀ j, j < 82944 * d + k → τ'.2.2.1 29 j = τ.2.2.1 29 j) ∧ ∀ j, k ≤ j → j < 4 * n4 → τ'.2.2.1 29 (82944 * d + j) = τ.2.2.1 35 j := by
  intro n
  induction n with
  | zero => intro m k τ _ h; omega
  | succ n ih =>
    intro m k τ hk hn
    rw [fM_joinTop_L264, show (4 : Int32) = nI 4 from rfl, nI_mul]
    cases m with
    | zero =>
      rw [if_pos (nI_le (by omega) (by omega))]
      exact ⟨τ, rfl, F1.refl _ τ, fun _ _ => rfl, fun j h1 h2 => by omega⟩
    | succ m =>
      unfold fM_spot
      rw [if_neg (nI_ge (by omega) (by omega)), bs, show (82944 : Int32) = nI 82944 from rfl, show (4 : Int32) * 0 = nI 0 from rfl, nI_mul, nI_add, Nat.add_zero, nI_add, chk_nI (by omega) (by omega), chk_nI (by omega) (by omega), nI_cl (by omega), nI_cl (by omega), nI_1]
      have f1 := F1_sA τ 29 (82944 * d + k) (τ.2.2.1 35 k)
      obtain ⟨τ', a1, a2, a3, a4⟩ := ih m (k + 1) (sA τ 29 (82944 * d + k) (τ.2.2.1 35 k)) (by omega) (by omega)
      refine ⟨τ', a1, f1.trans a2, ?_, ?_⟩
      · intro j hj
        rw [a3 j (by omega), sA_3, if_pos rfl, upd_at, if_neg (by omega)]
      · intro j h1 h2
        by_cases g : j = k
        · rw [g, a3 _ (by omega), sA_3, if_pos rfl, upd_at, if_pos rfl]
        · rw [a4 j (by omega) h2, f1.2.2.1 35 (by omega)]
theorem joinTop_M {N : Nat} (hN : 30000 ≤ N) {q : Qd} (hq : WfQ q) {l r k p : Nat} {L R : List Nat} {SL : Stk} {τ : MSt} (hk : k < 3) (hl : l < 16) (hr : r < 16) (h0 : l &&& r = 0) (hp : p < qP q) (hb : btw q p l r) (hlb : lb q l r = nI p) (hd : SL.length + 2 ≤ 4) (hL : ∀ x, x ∈ L → Vc q l x) (hR : ∀ y, y ∈ R → Vc q r y) (hRl : R.length ≤ 4096) (hLl : L.length ≤ 4096) (hLR : L.length * R.length ≤ 4096) (hSl : ∀ x, x ∈ SL → x.2.length ≤ 4096) (hM : MQd q τ) (h36 : τ.1 36 = nI (SL.length + 2)) (hS : MS ((l, L) :: (r, R) :: SL) τ) : ∃ τ' M, fM_joinTop N τ (nI k) = some τ' ∧ HR τ τ' ∧ MS ((l ||| r, M) :: SL) τ' ∧ τ'.1 36 = nI (SL.length + 1) ∧ τ'.1 37 = τ.1 37 + nI (js k L.length R.length) ∧ M.length = (JJ q l r L R).length ∧ ((k = 2 ∧ stS (kv q (qt q p) (qc q p)) (JJ q l r L R) M) ∨ (k ≠ 2 ∧ M = JJ q l r L R)) := by
  have hT := hq.1
  have hP := hq.2.1
  obtain ⟨⟨hS0, h30r, h31r, hMr⟩, h30l, h31l, hMl⟩ := hS
  have h30l : τ.2.2.1 30 (SL.length + 1) = nI L.length := h30l
  have h31l : τ.2.2.1 31 (SL.length + 1) = nI l := h31l
  have hMl : ML τ (82944 * (SL.length + 1)) l L := hMl
  have hjl := JJ_len q l r R L
  have p1 : nI (SL.length + 2) - (1 : Int32) = nI (SL.length + 1) := nI_pred (SL.length + 1)
  have p2 : nI (SL.length + 2) - (2 : Int32) = nI SL.length := nI_sub (b := 2) (by omega)
  unfold fM_joinTop
  rw [h36, p1, p2]
  obtain ⟨τ1, a1, a2, a3⟩ := mj_out (N := N) (by omega) hq (d := SL.length) (by omega) hl hr h0 hL hR hRl hLl (fun (σ : MSt) (x1 : Int32) (x2 : Int32) (x3 : Int32) (x4 : Int32) => (if x1 = 0 then chk x2 5 (chk x3 5 (fM_joinTop_J216 N σ x1 x2 x3 x4 (σ.1 37) ((σ.2.2.1 30 x2.toNatClampNeg) * (σ.2.2.1 30 x3.toNatClampNeg)))) else (if x1 = (1 : Int32) then fM_joinTop_J202 N σ x1 x2 x3 x4 (σ.1 37) (2 : Int32) else fM_joinTop_J202 N σ x1 x2 x3 x4 (σ.1 37) (3 : Int32)))) (nI k) N L.length 0 [] τ (by omega) (by omega) hM h30l h30r h31l h31r hMl hMr (fun i v k hi => by simp at hi) (by rw [List.length_nil]; omega)
  rw [List.length_nil, nI_0, List.drop_zero, List.nil_append] at a1
  rw [List.drop_zero, List.nil_append] at a3
  rw [a1]
  have H1 : HR τ τ1 := ⟨fun k _ => by rw [a2.1], fun k hk => a2.2.2.1 k (by omega)⟩
  have e30l : τ1.2.2.1 30 (SL.length + 1) = nI L.length := by rw [a2.2.2.1 30 (by omega)]; exact h30l
  have e30r : τ1.2.2.1 30 SL.length = nI R.length := by rw [a2.2.2.1 30 (by omega)]; exact h30r
  have e31l : τ1.2.2.1 31 (SL.length + 1) = nI l := by rw [a2.2.2.1 31 (by omega)]; exact h31l
  have e31r : τ1.2.2.1 31 SL.length = nI r := by rw [a2.2.2.1 31 (by omega)]; exact h31r
  have i1 : (nI k = (1 : Int32)) ↔ k = 1 := nI_eq (b := 1) (by omega) (by omega)
  have k2 : (nI k = (2 : Int32)) ↔ k = 2 := nI_eq (b := 2) (by omega) (by omega)
  have hjs : (if nI k = 0 then chk (nI (SL.length + 1)) 5 (chk (nI SL.length) 5 (fM_joinTop_J216 N τ1 (nI k) (nI (SL.length + 1)) (nI SL.length) (nI (JJ q l r L R).length) (τ1.1 37) ((τ1.2.2.1 30 (nI (SL.length + 1)).toNatClampNeg) * (τ1.2.2.1 30 (nI SL.length).toNatClampNeg)))) else (if nI k = (1 : Int32) then fM_joinTop_J202 N τ1 (nI k) (nI (SL.length + 1)) (nI SL.length) (nI (JJ q l r L R).length) (τ1.1 37) (2 : Int32) else fM_joinTop_J202 N τ1 (nI k) (nI (SL.length + 1)) (nI SL.length) (nI (JJ q l r L R).length) (τ1.1 37) (3 : Int32))) = fM_joinTop_J216 N τ1 (nI k) (nI (SL.length + 1)) (nI SL.length) (nI (JJ q l r L R).length) (τ1.1 37) (nI (js k L.length R.length)) := by
    unfold fM_joinTop_J202 js
    simp only [nI_eq0 (show k < 2 ^ 31 by omega), i1, chk_nI (show SL.length + 1 < 5 by omega) (show 5 < 2 ^ 31 by omega), chk_nI (show SL.length < 5 by omega) (show 5 < 2 ^ 31 by omega), nI_cl (show SL.length < 2 ^ 31 by omega), nI_cl (show SL.length + 1 < 2 ^ 31 by omega), e30l, e30r, show (2 : Int32) = nI 2 from rfl, show (3 : Int32) = nI 3 from rfl, nI_mul, nI_add]
    by_cases c : k = 0
    · rw [if_pos c, if_pos c]
    · rw [if_neg c, if_neg c]
      by_cases c1 : k = 1
      · rw [if_pos c1, if_pos c1]
      · rw [if_neg c1, if_neg c1]
  rw [hjs]
  unfold fM_joinTop_J216
  have f37 : HR τ1 (sI τ1 37 (τ1.1 37 + nI (js k L.length R.length))) := ⟨fun k hk => by rw [sI_1, if_neg (by omega)], fun _ _ => rfl⟩
  have M1 := MQd_HR (H1.trans f37) hM
  have e31l' : (sI τ1 37 (τ1.1 37 + nI (js k L.length R.length))).2.2.1 31 (SL.length + 1) = nI l := e31l
  have e31r' : (sI τ1 37 (τ1.1 37 + nI (js k L.length R.length))).2.2.1 31 SL.length = nI r := e31r
  have i37 : (sI τ1 37 (τ1.1 37 + nI (js k L.length R.length))).1 37 = τ.1 37 + nI (js k L.length R.length) := by rw [sI_1, if_pos rfl, a2.1]
  have i36 : (sI τ1 37 (τ1.1 37 + nI (js k L.length R.length))).1 36 = nI (SL.length + 2) := by rw [sI_1, if_neg (by omega), a2.1]; exact h36
  have r29 : (sI τ1 37 (τ1.1 37 + nI (js k L.length R.length))).2.2.1 29 = τ.2.2.1 29 := a2.2.2.1 29 (by omega)
  have r30 : (sI τ1 37 (τ1.1 37 + nI (js k L.length R.length))).2.2.1 30 = τ.2.2.1 30 := a2.2.2.1 30 (by omega)
  have r31 : (sI τ1 37 (τ1.1 37 + nI (js k L.length R.length))).2.2.1 31 = τ.2.2.1 31 := a2.2.2.1 31 (by omega)
  have v35 : MV (sI τ1 37 (τ1.1 37 + nI (js k L.length R.length))) (l ||| r) (JJ q l r L R).length (JJ q l r L R) := a3
  have H2 := H1.trans f37
  generalize sI τ1 37 (τ1.1 37 + nI (js k L.length R.length)) = τ2 at f37 M1 e31l' e31r' i37 i36 r29 r30 r31 v35 H2
  simp only [chk_nI (show SL.length + 1 < 5 by omega) (show 5 < 2 ^ 31 by omega), chk_nI (show SL.length < 5 by omega) (show 5 < 2 ^ 31 by omega), nI_cl (show SL.length < 2 ^ 31 by omega), nI_cl (show SL.length + 1 < 2 ^ 31 by omega), e31l', e31r']
  rw [betweenM (by omega) hq M1 hl hr, bs, hlb, b_or r hr l hl, Nat.or_comm r l]
  have g1 := F1_sA τ2 31 SL.length (nI (l ||| r))
  have g2 := F1_sA (sA τ2 31 SL.length (nI (l ||| r))) 30 SL.length (nI (JJ q l r L R).length)
  obtain ⟨τ3, c1, c2, c3, c4⟩ := cp_loop (N := N) (d := SL.length) (n4 := (JJ q l r L R).length) (by omega) (by omega) (fun (σ : MSt) (x1 : Int32) (x5 : Int32) => (if x1 = (2 : Int32) then chk x5 4 (chk x5 4 ((fM_sort N (sI σ 36 ((σ.1 36) - (1 : Int32))) ((sI σ 36 ((σ.1 36) - (1 : Int32))).2.2.1 6 x5.toNatClampNeg) ((sI σ 36 ((σ.1 36) - (1 : Int32))).2.2.1 7 x5.toNatClampNeg)).bind fun r_330 => some r_330)) else some (sI σ 36 ((σ.1 36) - (1 : Int32))))) (nI k) (nI p) N (4 * (JJ q l r L R).length) 0 (sA (sA τ2 31 SL.length (nI (l ||| r))) 30 SL.length (nI (JJ q l r L R).length)) (by omega) (by omega)
  rw [nI_0] at c1
  rw [c1]
  have H3 : HR τ2 τ3 := ⟨fun k _ => by rw [c2.1]; rfl, fun k hk => by rw [c2.2.2.1 k (by omega), g2.2.2.1 k (by omega), g1.2.2.1 k (by omega)]⟩
  have m36 : τ3.1 36 = nI (SL.length + 2) := by rw [c2.1]; exact i36
  have m37 : τ3.1 37 = τ.1 37 + nI (js k L.length R.length) := by rw [c2.1]; exact i37
  rw [m36, p1]
  have n30 : τ3.2.2.1 30 = upd (τ.2.2.1 30) SL.length (nI (JJ q l r L R).length) := by rw [c2.2.2.1 30 (by omega), sA_3, if_pos rfl, g1.2.2.1 30 (by omega), r30]
  have n31 : τ3.2.2.1 31 = upd (τ.2.2.1 31) SL.length (nI (l ||| r)) := by rw [c2.2.2.1 31 (by omega), g2.2.2.1 31 (by omega), sA_3, if_pos rfl, r31]
  have nML : ML τ3 (82944 * SL.length) (l ||| r) (JJ q l r L R) := by
    intro i v k hi hk
    have hil := (List.getElem?_eq_some_iff.mp hi).1
    rw [Nat.add_assoc, c4 _ (by omega) (by omega), g2.2.2.1 35 (by omega), g1.2.2.1 35 (by omega)]
    exact v35 i v k hil hi hk
  have nS0 : MS SL τ3 := by
    refine MS_eq (τ := τ) hSl (fun j hj => ?_) (fun j hj => ?_) (fun j hj => ?_) hS0
    · rw [n30, upd_at, if_neg (by omega)]
    · rw [n31, upd_at, if_neg (by omega)]
    · rw [c3 j (by omega), g2.2.2.1 29 (by omega), g1.2.2.1 29 (by omega), r29]
  have f4 : HR τ3 (sI τ3 36 (nI (SL.length + 1))) := ⟨fun k hk => by rw [sI_1, if_neg (by omega)], fun _ _ => rfl⟩
  have H4 := (H2.trans H3).trans f4
  have S4 : MS ((l ||| r, JJ q l r L R) :: SL) (sI τ3 36 (nI (SL.length + 1))) := by
    refine ⟨MS_eq (τ := τ3) hSl (fun _ _ => rfl) (fun _ _ => rfl) (fun _ _ => rfl) nS0, ?_, ?_, nML⟩
    · show τ3.2.2.1 30 SL.length = _
      rw [n30, upd_at, if_pos rfl]
    · show τ3.2.2.1 31 SL.length = _
      rw [n31, upd_at, if_pos rfl]
  have o36 : (sI τ3 36 (nI (SL.length + 1))).1 36 = nI (SL.length + 1) := by rw [sI_1, if_pos rfl]
  have o37 : (sI τ3 36 (nI (SL.length + 1))).1 37 = τ.1 37 + nI (js k L.length R.length) := by rw [sI_1, if_neg (by omega)]; exact m37
  have M4 := MQd_HR H4 hM
  generalize sI τ3 36 (nI (SL.length + 1)) = τ4 at f4 H4 S4 o36 o37 M4
  by_cases c : k = 2
  · obtain ⟨b1, b2, b3, b4, -⟩ := hq.2.2.2.2.1 p hp
    obtain ⟨q1, q2, -⟩ := M4.2.2.2.2.2.2 p hp
    have hS16 : (l ||| r) / 2 ^ qt q p % 2 = 1 := by
      have d1 := b_disj hl hr h0 (qt q p) (by omega)
      have o1 := bit_or l r (qt q p)
      rcases btw_bits hq hp hl hr h0 hb with ⟨h1, -⟩ | ⟨h1, -⟩
      · have z1 : r / 2 ^ qt q p % 2 = 0 := by omega
        rw [h1, z1] at o1
        exact o1
      · have z1 : l / 2 ^ qt q p % 2 = 0 := by omega
        rw [h1, z1] at o1
        exact o1
    rw [if_pos (k2.mpr c), chk_nI (by omega) (by omega), chk_nI (by omega) (by omega), nI_cl (by omega), q1, q2]
    have hvc : ∀ z, z ∈ JJ q l r L R → Vc q (l ||| r) z := by
      intro z hz
      obtain ⟨x, hx, y, hy, -, rfl⟩ := JJ_mem hz
      exact Vc_or hl hr h0 (hL x hx) (hR y hy)
    obtain ⟨τ5, M, s1, s2, s3, s4, s5⟩ := sort_M (N := N) hN hq M4 (d := SL.length) (by omega) (by omega) hvc (show qt q p < 4 by omega) hS16 b3 o36 S4.2.1 S4.2.2.2
    rw [s1, bs]
    refine ⟨τ5, M, rfl, H4.trans ⟨fun k _ => by rw [s2.1], fun k hk => s2.2.1 k (by omega)⟩, ⟨MS_eq (τ := τ4) hSl (fun j hj => by rw [s2.2.1 30 (by omega)]) (fun j hj => by rw [s2.2.1 31 (by omega)]) (fun j hj => s2.2.2 j (Or.inl hj)) S4.1, ?_, ?_, s3⟩, by rw [s2.1]; exact o36, by rw [s2.1]; exact o37, s5, Or.inl ⟨c, s4⟩⟩
    · rw [s2.2.1 30 (by omega), s5]; exact S4.2.1
    · rw [s2.2.1 31 (by omega)]; exact S4.2.2.1
  · rw [if_neg (fun h => c (k2.mp h))]
    exact ⟨τ4, _, rfl, H4, S4, o36, o37, rfl, Or.inr ⟨c, rfl⟩⟩
