/-! the reference's sort -/
def Seg (f : Nat → Int32) (a : Nat) (L : List Nat) : Prop := ∀ j v, L[j]? = some v → f (a + j) = nI v
theorem Seg_nil (f : Nat → Int32) (a : Nat) : Seg f a [] := fun j v h => by simp at h
theorem Seg_cons {f : Nat → Int32} {a x : Nat} {L : List Nat} : Seg f a (x :: L) ↔ f a = nI x ∧ Seg f (a + 1) L := by
  constructor
  · intro h
    refine ⟨h 0 x rfl, fun j v hj => ?_⟩
    have := h (j + 1) v (by rw [List.getElem?_cons_succ]; exact hj)
    rw [show a + 1 + j = a + (j + 1) by omega]
    exact this
  · rintro ⟨h1, h2⟩ j v hj
    cases j with
    | zero =>
      have : x = v := by simpa using hj
      rw [← this]; exact h1
    | succ j =>
      rw [List.getElem?_cons_succ] at hj
      rw [show a + (j + 1) = a + 1 + j by omega]
      exact h2 j v hj
theorem Seg_app {f : Nat → Int32} {a : Nat} {L M : List Nat} : Seg f a (L ++ M) ↔ Seg f a L ∧ Seg f (a + L.length) M := by
  constructor
  · intro h
    constructor
    · intro j v hj
      exact h j v (by rw [List.getElem?_append_left (List.getElem?_eq_some_iff.mp hj).1]; exact hj)
    · intro j v hj
      have := h (L.length + j) v (by rw [List.getElem?_append_right (by omega), Nat.add_sub_cancel_left]; exact hj)
      rw [Nat.add_assoc]
      exact this
  · rintro ⟨h1, h2⟩ j v hj
    by_cases c : j < L.length
    · exact h1 j v (by rw [List.getElem?_append_left c] at hj; exact hj)
    · rw [List.getElem?_append_right (by omega)] at hj
      have := h2 _ v hj
      rw [show a + L.length + (j - L.length) = a + j by omega] at this
      exact this
theorem Seg_eq {f g : Nat → Int32} {a : Nat} {L : List Nat} (h : ∀ j, a ≤ j → j < a + L.length → g j = f j) (hS : Seg f a L) : Seg g a L := by
  intro j v hj
  have hl := (List.getElem?_eq_some_iff.mp hj).1
  rw [h _ (by omega) (by omega)]
  exact hS j v hj
/-- only one int row changes -/
def F1 (r : Nat) (τ τ' : MSt) : Prop := τ'.1 = τ.1 ∧ τ'.2.1 = τ.2.1 ∧ (∀ k, k ≠ r → τ'.2.2.1 k = τ.2.2.1 k) ∧ τ'.2.2.2 = τ.2.2.2
theorem F1.refl (r : Nat) (τ : MSt) : F1 r τ τ := ⟨rfl, rfl, fun _ _ => rfl, rfl⟩
theorem F1.trans {r : Nat} {a b c : MSt} (h : F1 r a b) (g : F1 r b c) : F1 r a c := ⟨g.1.trans h.1, g.2.1.trans h.2.1, fun k hk => (g.2.2.1 k hk).trans (h.2.2.1 k hk), g.2.2.2.trans h.2.2.2⟩
theorem F1_sA (τ : MSt) (r i : Nat) (v : Int32) : F1 r τ (sA τ r i v) := ⟨rfl, rfl, fun k hk => by rw [sA_3, if_neg hk], rfl⟩
theorem mg_nl {α : Type} (key : α → Int) {f : Nat} (hf : 0 < f) (Y : List α) : mg key f [] Y = Y := by
  obtain ⟨f, rfl⟩ : ∃ k, f = k + 1 := ⟨f - 1, by omega⟩
  cases Y <;> rfl
theorem mg_nr {α : Type} (key : α → Int) {f : Nat} (hf : 0 < f) (X : List α) : mg key f X [] = X := by
  obtain ⟨f, rfl⟩ : ∃ k, f = k + 1 := ⟨f - 1, by omega⟩
  cases X <;> rfl
theorem merge_loop {N : Nat} {K32 : Nat → Int32} {key : Nat → Int} (hkey : ∀ v, key v = (K32 v).toInt) : ∀ (n : Nat) (X Y : List Nat) (x y i f mid fin : Nat) (τ : MSt), x + X.length = mid → y + Y.length = fin → mid ≤ y → i + X.length + Y.length = fin → fin ≤ 20736 → X.length + Y.length < n → X.length + Y.length < f → τ.2.2.1 32 = K32 → Seg (τ.2.2.1 33) x X → Seg (τ.2.2.1 33) y Y → (∀ v, v ∈ X ∨ v ∈ Y → v < 20736) → ∃ τ', fM_merge_L9 N n τ (nI mid) (nI fin) (nI x) (nI y) (nI i) = some τ' ∧ F1 34 τ τ' ∧ Seg (τ'.2.2.1 34) i (mg key f X Y) ∧ ∀ j, (j < i ∨ fin ≤ j) → τ'.2.2.1 34 j = τ.2.2.1 34 j := by
  intro n
  induction n with
  | zero => intro X Y x y i f mid fin τ _ _ _ _ _ h; omega
  | succ n ih =>
    intro X Y x y i f mid fin τ hx hy hmy hi hfin hn hf h32 sX sY hv
    rw [fM_merge_L9]
    have left : ∀ (a : Nat) (X' : List Nat), X = a :: X' → (mg key f X Y = a :: mg key (f - 1) X' Y) → ∃ τ', fM_merge_J54 N (fun (σ : MSt) (x2 : Int32) (x3 : Int32) (x4 : Int32) (x5 : Int32) (x6 : Int32) => fM_merge_L9 N n σ x2 x3 x4 x5 x6) τ (nI mid) (nI fin) (nI x) (nI y) (nI i) = some τ' ∧ F1 34 τ τ' ∧ Seg (τ'.2.2.1 34) i (mg key f X Y) ∧ ∀ j, (j < i ∨ fin ≤ j) → τ'.2.2.1 34 j = τ.2.2.1 34 j := by
      intro a X' hX hmg
      subst hX
      rw [List.length_cons] at hx hi hn hf
      have sX' := Seg_cons.mp sX
      unfold fM_merge_J54 fM_merge_J59 fM_merge_J89 fM_merge_J102
      rw [if_neg n10, chk_nI (by omega) (by omega), chk_nI (by omega) (by omega), if_neg n10, if_neg n10, nI_1, nI_1, nI_cl (by omega), nI_cl (by omega), sX'.1, show nI y + 0 = nI y from Int32.add_zero _]
      have f1 := F1_sA τ 34 i (nI a)
      obtain ⟨τ', h1, h2, h3, h4⟩ := ih X' Y (x + 1) y (i + 1) (f - 1) mid fin (sA τ 34 i (nI a)) (by omega) hy hmy (by omega) hfin (by omega) (by omega) (by rw [f1.2.2.1 32 (by omega)]; exact h32) (by rw [f1.2.2.1 33 (by omega)]; exact sX'.2) (by rw [f1.2.2.1 33 (by omega)]; exact sY) (fun v h => hv v (by rcases h with h | h; exact Or.inl (List.mem_cons_of_mem _ h); exact Or.inr h))
      refine ⟨τ', h1, f1.trans h2, ?_, ?_⟩
      · rw [hmg]
        refine Seg_cons.mpr ⟨?_, h3⟩
        rw [h4 i (by omega), sA_3, if_pos rfl, upd_at, if_pos rfl]
      · intro j hj
        rw [h4 j (by omega), sA_3, if_pos rfl, upd_at, if_neg (by omega)]
    have right : ∀ (b : Nat) (Y' : List Nat), Y = b :: Y' → (mg key f X Y = b :: mg key (f - 1) X Y') → ∃ τ', fM_merge_J58 N (fun (σ : MSt) (x2 : Int32) (x3 : Int32) (x4 : Int32) (x5 : Int32) (x6 : Int32) => fM_merge_L9 N n σ x2 x3 x4 x5 x6) τ (nI mid) (nI fin) (nI x) (nI y) (nI i) = some τ' ∧ F1 34 τ τ' ∧ Seg (τ'.2.2.1 34) i (mg key f X Y) ∧ ∀ j, (j < i ∨ fin ≤ j) → τ'.2.2.1 34 j = τ.2.2.1 34 j := by
      intro b Y' hY hmg
      subst hY
      rw [List.length_cons] at hy hi hn hf
      have sY' := Seg_cons.mp sY
      unfold fM_merge_J58 fM_merge_J59 fM_merge_J89 fM_merge_J102
      rw [if_pos rfl, chk_nI (by omega) (by omega), chk_nI (by omega) (by omega), if_pos rfl, if_pos rfl, nI_1, nI_1, nI_cl (by omega), nI_cl (by omega), sY'.1, show nI x + 0 = nI x from Int32.add_zero _]
      have f1 := F1_sA τ 34 i (nI b)
      obtain ⟨τ', h1, h2, h3, h4⟩ := ih X Y' x (y + 1) (i + 1) (f - 1) mid fin (sA τ 34 i (nI b)) hx (by omega) (by omega) (by omega) hfin (by omega) (by omega) (by rw [f1.2.2.1 32 (by omega)]; exact h32) (by rw [f1.2.2.1 33 (by omega)]; exact sX) (by rw [f1.2.2.1 33 (by omega)]; exact sY'.2) (fun v h => hv v (by rcases h with h | h; exact Or.inl h; exact Or.inr (List.mem_cons_of_mem _ h)))
      refine ⟨τ', h1, f1.trans h2, ?_, ?_⟩
      · rw [hmg]
        refine Seg_cons.mpr ⟨?_, h3⟩
        rw [h4 i (by omega), sA_3, if_pos rfl, upd_at, if_pos rfl]
      · intro j hj
        rw [h4 j (by omega), sA_3, if_pos rfl, upd_at, if_neg (by omega)]
    obtain ⟨f', rfl⟩ : ∃ k, f = k + 1 := ⟨f - 1, by omega⟩
    rw [Nat.add_sub_cancel] at left right
    cases Y with
    | nil =>
      cases X with
      | nil =>
        rw [List.length_nil] at hi
        rw [if_pos (nI_le (by simp at hi; omega) (by omega))]
        exact ⟨τ, rfl, F1.refl _ τ, Seg_nil _ _, fun _ _ => rfl⟩
      | cons a X =>
        simp only [List.length_cons, List.length_nil] at hx hy hi hn hf
        rw [if_neg (nI_ge (by omega) (by omega)), if_pos (by rw [show y = fin by omega])]
        refine left a X rfl ?_
        rw [mg_nr key (by omega), mg_nr key (by omega)]
    | cons b Y =>
      have sY' := Seg_cons.mp sY
      cases X with
      | nil =>
        simp only [List.length_cons, List.length_nil] at hx hy hi hn hf
        rw [if_neg (nI_ge (by omega) (by omega)), if_neg (fun h => by have := (nI_eq (show y < 2 ^ 31 by omega) (show fin < 2 ^ 31 by omega)).mp h; omega), if_pos (nI_le (by omega) (by omega))]
        refine right b Y rfl ?_
        rw [mg_nl key (by omega), mg_nl key (by omega)]
      | cons a X =>
        have sX' := Seg_cons.mp sX
        simp only [List.length_cons] at hx hy hi hn hf
        have va := hv a (Or.inl List.mem_cons_self)
        have vb := hv b (Or.inr List.mem_cons_self)
        rw [if_neg (nI_ge (by omega) (by omega)), if_neg (fun h => by have := (nI_eq (show y < 2 ^ 31 by omega) (show fin < 2 ^ 31 by omega)).mp h; omega), if_neg (nI_ge (by omega) (by omega)), chk_nI (by omega) (by omega), nI_cl (by omega), sX'.1, chk_nI va (by omega), chk_nI (by omega) (by omega), nI_cl (by omega), sY'.1, chk_nI vb (by omega), nI_cl (by omega), nI_cl (by omega), h32]
        by_cases c : key a ≤ key b
        · rw [if_neg (fun h => by rw [Int32.lt_iff_toInt_lt, ← hkey, ← hkey] at h; omega)]
          exact left a X rfl (if_pos c)
        · rw [if_pos (by rw [Int32.lt_iff_toInt_lt, ← hkey, ← hkey]; omega)]
          exact right b Y rfl (if_neg c)
theorem pass_loop {N : Nat} (hN : 30000 ≤ N) {K32 : Nat → Int32} {key : Nat → Int} (hkey : ∀ v, key v = (K32 v).toInt) {A : List Nat} {w : Nat} (hw : 0 < w) (hw2 : w ≤ 8192) (hA : A.length ≤ 4096) (hv : ∀ v, v ∈ A → v < 20736) (K : MSt → Int32 → Int32 → Int32 → Option MSt) (x4 : Int32) : ∀ (n k b : Nat) (P : List Nat) (τ : MSt), (A.drop b).length ≤ 2 * w * k → k < n → P.length = min b A.length → b ≤ 3 * 8192 + A.length → τ.2.2.1 32 = K32 → Seg (τ.2.2.1 33) 0 A → Seg (τ.2.2.1 34) 0 P → ∃ τ', fM_sort_L88 N K n τ (nI A.length) x4 (nI w) (nI b) = K τ' (nI A.length) x4 (nI w) ∧ F1 34 τ τ' ∧ Seg (τ'.2.2.1 34) 0 (P ++ psS key w k (A.drop b)) := by
  intro n
  induction n with
  | zero => intro k b P τ _ h; omega
  | succ n ih =>
    intro k b P τ hk hn hP hb h32 s33 s34
    rw [fM_sort_L88]
    by_cases c : A.length ≤ b
    · rw [if_pos (nI_le c (by omega))]
      have hp : psS key w k (A.drop b) = [] := by
        rw [List.drop_eq_nil_of_le c]
        exact List.length_eq_zero_iff.mp (ps_len (key := key) hw k ([] : List Nat) (by simp))
      rw [hp, List.append_nil]
      exact ⟨τ, rfl, F1.refl _ τ, s34⟩
    · cases k with
      | zero => rw [List.length_drop] at hk; omega
      | succ k =>
        rw [if_neg (nI_ge (by omega) (by omega)), nI_add]
        unfold fM_sort_J115 fM_sort_J137
        rw [show (2 : Int32) = nI 2 from rfl, nI_mul, nI_add]
        have hPl : P.length = b := by omega
        have step : ∀ (m e : Nat), m = min (b + w) A.length → e = min (b + 2 * w) A.length → ∃ τ', ((fM_merge N τ (nI b) (nI m) (nI e)).bind fun r_137 => fM_sort_L88 N K n r_137 (nI A.length) x4 (nI w) (nI (b + 2 * w))) = K τ' (nI A.length) x4 (nI w) ∧ F1 34 τ τ' ∧ Seg (τ'.2.2.1 34) 0 (P ++ psS key w (k + 1) (A.drop b)) := by
          intro m e hm he
          have lX : ((A.drop b).take w).length = m - b := by simp only [List.length_take, List.length_drop]; omega
          have lY : (((A.drop b).drop w).take w).length = e - m := by simp only [List.length_take, List.length_drop]; omega
          have sX : Seg (τ.2.2.1 33) b ((A.drop b).take w) := by
            intro j v hj
            have hl := (List.getElem?_eq_some_iff.mp hj).1
            rw [List.getElem?_take_of_lt (by omega), List.getElem?_drop] at hj
            have := s33 _ _ hj
            rw [Nat.zero_add] at this
            exact this
          have sY : Seg (τ.2.2.1 33) m (((A.drop b).drop w).take w) := by
            intro j v hj
            have hl := (List.getElem?_eq_some_iff.mp hj).1
            rw [List.getElem?_take_of_lt (by omega), List.getElem?_drop, List.getElem?_drop] at hj
            have := s33 _ _ hj
            rw [Nat.zero_add] at this
            rw [show m + j = b + (w + j) by omega]
            exact this
          obtain ⟨τ1, h1, h2, h3, h4⟩ := merge_loop (N := N) hkey N ((A.drop b).take w) (((A.drop b).drop w).take w) b m b (2 * w + 1) m e τ (by omega) (by omega) (Nat.le_refl _) (by omega) (by omega) (by omega) (by omega) h32 sX sY (by
            intro v h
            rcases h with h | h
            · exact hv v (List.mem_of_mem_drop (List.mem_of_mem_take h))
            · exact hv v (List.mem_of_mem_drop (List.mem_of_mem_drop (List.mem_of_mem_take h))))
          unfold fM_merge
          rw [h1, bs]
          have lm : (mg key (2 * w + 1) ((A.drop b).take w) (((A.drop b).drop w).take w)).length = e - b := by
            rw [mg_len _ _ _ (by omega)]
            omega
          have sP : Seg (τ1.2.2.1 34) 0 (P ++ mg key (2 * w + 1) ((A.drop b).take w) (((A.drop b).drop w).take w)) := by
            refine Seg_app.mpr ⟨Seg_eq (fun j _ hj => h4 j (by omega)) s34, ?_⟩
            rw [Nat.zero_add, hPl]
            exact h3
          obtain ⟨τ2, g1, g2, g3⟩ := ih k (b + 2 * w) _ τ1 (by simp only [List.length_drop] at hk ⊢; rw [Nat.mul_succ] at hk; omega) (by omega) (by rw [List.length_append, lm]; omega) (by omega) (by rw [h2.2.2.1 32 (by omega)]; exact h32) (by rw [h2.2.2.1 33 (by omega)]; exact s33) sP
          refine ⟨τ2, g1, h2.trans g2, ?_⟩
          show Seg (τ2.2.2.1 34) 0 (P ++ (mg key (2 * w + 1) ((A.drop b).take w) (((A.drop b).drop w).take w) ++ psS key w k ((A.drop b).drop (2 * w))))
          rw [← List.append_assoc, show (A.drop b).drop (2 * w) = A.drop (b + 2 * w) from List.drop_drop]
          exact g3
        by_cases c1 : A.length ≤ b + w
        · rw [if_pos (nI_le c1 (by omega)), if_pos (nI_le (show A.length ≤ b + 2 * w by omega) (by omega))]
          exact step A.length A.length (by omega) (by omega)
        · rw [if_neg (nI_ge (by omega) (by omega))]
          by_cases c2 : A.length ≤ b + 2 * w
          · rw [if_pos (nI_le c2 (by omega))]
            exact step (b + w) A.length (by omega) (by omega)
          · rw [if_neg (nI_ge (by omega) (by omega))]
            exact step (b + w) (b + 2 * w) (by omega) (by omega)
theorem copy_loop {N : Nat} {B : List Nat} (hB : B.length ≤ 4096) (K : MSt → Int32 → Int32 → Int32 → Option MSt) (x4 x5 : Int32) : ∀ (n m i : Nat) (τ : MSt), i + m = B.length → m < n → Seg (τ.2.2.1 34) 0 B → Seg (τ.2.2.1 33) 0 (B.take i) → ∃ τ', fM_sort_L155 N K n τ (nI B.length) x4 x5 (nI i) = K τ' (nI B.length) x4 x5 ∧ F1 33 τ τ' ∧ Seg (τ'.2.2.1 33) 0 B := by
  intro n
  induction n with
  | zero => intro m i τ _ h; omega
  | succ n ih =>
    intro m i τ hi hn s34 s33
    rw [fM_sort_L155]
    cases m with
    | zero =>
      rw [if_pos (nI_le (by omega) (by omega))]
      rw [List.take_of_length_le (by omega)] at s33
      exact ⟨τ, rfl, F1.refl _ τ, s33⟩
    | succ m =>
      have hb : B[i]? = some B[i] := List.getElem?_eq_getElem (by omega)
      have hv := s34 i _ hb
      rw [Nat.zero_add] at hv
      rw [if_neg (nI_ge (by omega) (by omega)), chk_nI (by omega) (by omega), chk_nI (by omega) (by omega), nI_cl (by omega), hv, nI_1]
      have f1 := F1_sA τ 33 i (nI B[i])
      obtain ⟨τ', h1, h2, h3⟩ := ih m (i + 1) (sA τ 33 i (nI B[i])) (by omega) (by omega) (by rw [f1.2.2.1 34 (by omega)]; exact s34) (by
        rw [List.take_add_one, hb]
        refine Seg_app.mpr ⟨Seg_eq (fun j _ hj => ?_) s33, ?_⟩
        · rw [sA_3, if_pos rfl, upd_at, if_neg (by rw [List.length_take] at hj; omega)]
        · refine Seg_cons.mpr ⟨?_, Seg_nil _ _⟩
          rw [sA_3, if_pos rfl, upd_at, if_pos (by rw [List.length_take]; omega)])
      exact ⟨τ', h1, f1.trans h2, h3⟩
