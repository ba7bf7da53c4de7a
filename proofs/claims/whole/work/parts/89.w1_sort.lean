/-! stable sorting -/
def flt {α : Type} (key : α → Int) (v : Int) (L : List α) : List α := L.filter fun x => decide (key x = v)
def srt {α : Type} (key : α → Int) (L : List α) : Prop := L.Pairwise fun x y => key x ≤ key y
def stS {α : Type} (key : α → Int) (L M : List α) : Prop := srt key M ∧ ∀ v, flt key v M = flt key v L
theorem mem_flt {α : Type} {key : α → Int} {v : Int} {L : List α} {x : α} : x ∈ flt key v L ↔ x ∈ L ∧ key x = v := by
  unfold flt
  rw [List.mem_filter, decide_eq_true_eq]
theorem flt_cons_y {α : Type} {key : α → Int} {v : Int} {a : α} (L : List α) (h : key a = v) : flt key v (a :: L) = a :: flt key v L := List.filter_cons_of_pos (decide_eq_true h)
theorem flt_cons_n {α : Type} {key : α → Int} {v : Int} {a : α} (L : List α) (h : ¬ key a = v) : flt key v (a :: L) = flt key v L := List.filter_cons_of_neg (fun g => h (of_decide_eq_true g))
theorem flt_app {α : Type} (key : α → Int) (v : Int) (L M : List α) : flt key v (L ++ M) = flt key v L ++ flt key v M := List.filter_append L M
theorem ss_uniq2 {α : Type} {key : α → Int} : ∀ (M M' : List α), srt key M → srt key M' → (∀ v, flt key v M = flt key v M') → M = M' := by
  intro M
  induction M with
  | nil =>
    intro M' _ _ h
    cases M' with
    | nil => rfl
    | cons b M' =>
      have := h (key b)
      rw [flt_cons_y M' rfl] at this
      cases this
  | cons a M ih =>
    intro M' h1 h2 h
    cases M' with
    | nil =>
      have := h (key a)
      rw [flt_cons_y M rfl] at this
      cases this
    | cons b M' =>
      have h1' := List.pairwise_cons.mp h1
      have h2' := List.pairwise_cons.mp h2
      have ab : key a ≤ key b := by
        have : b ∈ flt key (key b) (a :: M) := by rw [h]; exact mem_flt.mpr ⟨List.mem_cons_self, rfl⟩
        rcases List.mem_cons.mp (mem_flt.mp this).1 with e | e
        · rw [e]; exact Int.le_refl _
        · exact h1'.1 b e
      have ba : key b ≤ key a := by
        have : a ∈ flt key (key a) (b :: M') := by rw [← h]; exact mem_flt.mpr ⟨List.mem_cons_self, rfl⟩
        rcases List.mem_cons.mp (mem_flt.mp this).1 with e | e
        · rw [e]; exact Int.le_refl _
        · exact h2'.1 a e
      have ke : key b = key a := by omega
      have h0 := h (key a)
      rw [flt_cons_y M rfl, flt_cons_y M' ke] at h0
      have e1 := (List.cons.inj h0).1
      have e2 := (List.cons.inj h0).2
      subst e1
      rw [ih M' h1'.2 h2'.2 (fun v => ?_)]
      by_cases c : key a = v
      · rw [← c]; exact e2
      · have := h v
        rw [flt_cons_n M c, flt_cons_n M' c] at this
        exact this
theorem ss_uniq {α : Type} {key : α → Int} {L M M' : List α} (h : stS key L M) (h' : stS key L M') : M = M' := ss_uniq2 M M' h.1 h'.1 (fun v => by rw [h.2, h'.2])
theorem stS_mem {α : Type} {key : α → Int} {L M : List α} (h : stS key L M) (x : α) : x ∈ M ↔ x ∈ L := by
  have := h.2 (key x)
  constructor
  · intro hx
    have : x ∈ flt key (key x) L := by rw [← this]; exact mem_flt.mpr ⟨hx, rfl⟩
    exact (mem_flt.mp this).1
  · intro hx
    have : x ∈ flt key (key x) M := by rw [this]; exact mem_flt.mpr ⟨hx, rfl⟩
    exact (mem_flt.mp this).1
theorem flt_nil {α : Type} {key : α → Int} {v : Int} {L : List α} (h : ∀ x, x ∈ L → ¬ key x = v) : flt key v L = [] := by
  unfold flt
  rw [List.filter_eq_nil_iff]
  intro x hx g
  exact h x hx (of_decide_eq_true g)
theorem flt_congr {α : Type} {k1 k2 : α → Int} {v w : Int} {L : List α} (h : ∀ x, x ∈ L → (k1 x = v ↔ k2 x = w)) : flt k1 v L = flt k2 w L := by
  unfold flt
  refine List.filter_congr ?_
  intro x hx
  rw [decide_eq_decide]
  exact h x hx
theorem stS_key {α : Type} {k1 k2 : α → Int} {L M : List α} (hk : ∀ x y, x ∈ L → y ∈ L → (k1 x ≤ k1 y ↔ k2 x ≤ k2 y)) (h : stS k1 L M) : stS k2 L M := by
  have hm := stS_mem h
  constructor
  · refine List.Pairwise.imp_of_mem ?_ h.1
    intro x y hx hy hxy
    exact (hk x y ((hm x).mp hx) ((hm y).mp hy)).mp hxy
  · intro v
    by_cases c : ∃ x, x ∈ L ∧ k2 x = v
    · obtain ⟨x, hx, rfl⟩ := c
      have e : ∀ y, y ∈ L → (k2 y = k2 x ↔ k1 y = k1 x) := by
        intro y hy
        have a := hk x y hx hy
        have b := hk y x hy hx
        omega
      rw [flt_congr (fun y hy => e y ((hm y).mp hy)), flt_congr (L := L) e, h.2]
    · rw [flt_nil (L := L) (fun x hx e => c ⟨x, hx, e⟩), flt_nil (L := M) (fun x hx e => c ⟨x, (hm x).mp hx, e⟩)]
theorem flt_flat {α β : Type} {f : α → List β} {kA : α → Int} {kB : β → Int} {v : Int} : ∀ (L : List α), (∀ x, x ∈ L → ∀ y, y ∈ f x → kB y = kA x) → flt kB v (L.flatMap f) = (flt kA v L).flatMap f := by
  intro L
  induction L with
  | nil => intro _; rfl
  | cons a L ih =>
    intro h
    rw [List.flatMap_cons, flt_app, ih (fun x hx => h x (List.mem_cons_of_mem _ hx))]
    by_cases c : kA a = v
    · rw [flt_cons_y L c, List.flatMap_cons]
      congr 1
      unfold flt
      rw [List.filter_eq_self]
      intro y hy
      exact decide_eq_true ((h a List.mem_cons_self y hy).trans c)
    · rw [flt_cons_n L c, flt_nil (fun y hy e => c ((h a List.mem_cons_self y hy).symm.trans e)), List.nil_append]
theorem stS_flat {α β : Type} {f : α → List β} {kA : α → Int} {kB : β → Int} {L M : List α} (hk : ∀ x, x ∈ L → ∀ y, y ∈ f x → kB y = kA x) (h : stS kA L M) : stS kB (L.flatMap f) (M.flatMap f) := by
  have hm := stS_mem h
  constructor
  · unfold srt
    rw [List.pairwise_flatMap]
    constructor
    · intro a ha
      refine List.pairwise_iff_forall_sublist.mpr ?_
      intro x y hxy
      have hx : x ∈ f a := hxy.subset (by simp)
      have hy : y ∈ f a := hxy.subset (by simp)
      have := hk a ((hm a).mp ha) x hx
      have := hk a ((hm a).mp ha) y hy
      omega
    · refine List.Pairwise.imp_of_mem ?_ h.1
      intro a b ha hb hab x hx y hy
      have := hk a ((hm a).mp ha) x hx
      have := hk b ((hm b).mp hb) y hy
      omega
  · intro v
    rw [flt_flat L hk, flt_flat M (fun x hx => hk x ((hm x).mp hx)), h.2]
theorem stS_map {α β : Type} {g : α → β} {key : β → Int} {X A : List α} (h : stS (fun x => key (g x)) X A) : stS key (X.map g) (A.map g) := by
  constructor
  · unfold srt
    rw [List.pairwise_map]
    exact h.1
  · intro v
    have e : ∀ L : List α, flt key v (L.map g) = (flt (fun x => key (g x)) v L).map g := by
      intro L
      unfold flt
      rw [List.filter_map]
      rfl
    rw [e, e, h.2]
/-! merging -/
def mg {α : Type} (key : α → Int) : Nat → List α → List α → List α
  | 0, _, _ => []
  | _ + 1, [], Y => Y
  | _ + 1, X, [] => X
  | n + 1, x :: X, y :: Y => if key x ≤ key y then x :: mg key n X (y :: Y) else y :: mg key n (x :: X) Y
theorem mg_flt {α : Type} {key : α → Int} (v : Int) : ∀ (n : Nat) (X Y : List α), X.length + Y.length < n → srt key X → srt key Y → flt key v (mg key n X Y) = flt key v X ++ flt key v Y := by
  intro n
  induction n with
  | zero => intro X Y h; omega
  | succ n ih =>
    intro X Y hn hX hY
    cases X with
    | nil => cases Y <;> rfl
    | cons x X =>
      cases Y with
      | nil => show flt key v (x :: X) = _; rw [show flt key v ([] : List α) = [] from rfl, List.append_nil]
      | cons y Y =>
        rw [List.length_cons, List.length_cons] at hn
        show flt key v (if key x ≤ key y then x :: mg key n X (y :: Y) else y :: mg key n (x :: X) Y) = _
        by_cases c : key x ≤ key y
        · rw [if_pos c]
          have i := ih X (y :: Y) (by rw [List.length_cons]; omega) (List.pairwise_cons.mp hX).2 hY
          by_cases d : key x = v
          · rw [flt_cons_y _ d, flt_cons_y X d, i]; rfl
          · rw [flt_cons_n _ d, flt_cons_n X d, i]
        · rw [if_neg c]
          have i := ih (x :: X) Y (by rw [List.length_cons]; omega) hX (List.pairwise_cons.mp hY).2
          by_cases d : key y = v
          · have hn : flt key v (x :: X) = [] := by
              refine flt_nil ?_
              intro z hz e
              rcases List.mem_cons.mp hz with g | g
              · rw [g] at e; omega
              · have := (List.pairwise_cons.mp hX).1 z g; omega
            rw [flt_cons_y _ d, i, hn, List.nil_append, List.nil_append, flt_cons_y Y d]
          · rw [flt_cons_n _ d, i, flt_cons_n Y d]
theorem mg_mem {α : Type} {key : α → Int} {n : Nat} {X Y : List α} (hn : X.length + Y.length < n) (hX : srt key X) (hY : srt key Y) {z : α} (hz : z ∈ mg key n X Y) : z ∈ X ∨ z ∈ Y := by
  have h := mg_flt (key z) n X Y hn hX hY
  have : z ∈ flt key (key z) (mg key n X Y) := mem_flt.mpr ⟨hz, rfl⟩
  rw [h] at this
  rcases List.mem_append.mp this with g | g
  · exact Or.inl (mem_flt.mp g).1
  · exact Or.inr (mem_flt.mp g).1
theorem mg_srt {α : Type} {key : α → Int} : ∀ (n : Nat) (X Y : List α), X.length + Y.length < n → srt key X → srt key Y → srt key (mg key n X Y) := by
  intro n
  induction n with
  | zero => intro X Y h; omega
  | succ n ih =>
    intro X Y hn hX hY
    cases X with
    | nil => cases Y <;> exact hY
    | cons x X =>
      cases Y with
      | nil => exact hX
      | cons y Y =>
        rw [List.length_cons, List.length_cons] at hn
        show srt key (if key x ≤ key y then x :: mg key n X (y :: Y) else y :: mg key n (x :: X) Y)
        have hX' := List.pairwise_cons.mp hX
        have hY' := List.pairwise_cons.mp hY
        by_cases c : key x ≤ key y
        · rw [if_pos c]
          refine List.pairwise_cons.mpr ⟨?_, ih X (y :: Y) (by rw [List.length_cons]; omega) hX'.2 hY⟩
          intro z hz
          rcases mg_mem (by rw [List.length_cons]; omega) hX'.2 hY hz with g | g
          · exact hX'.1 z g
          · rcases List.mem_cons.mp g with e | e
            · rw [e]; exact c
            · have := hY'.1 z e; omega
        · rw [if_neg c]
          refine List.pairwise_cons.mpr ⟨?_, ih (x :: X) Y (by rw [List.length_cons]; omega) hX hY'.2⟩
          intro z hz
          rcases mg_mem (by rw [List.length_cons]; omega) hX hY'.2 hz with g | g
          · rcases List.mem_cons.mp g with e | e
            · rw [e]; omega
            · have := hX'.1 z e; omega
          · exact hY'.1 z g
theorem mg_len {α : Type} {key : α → Int} : ∀ (n : Nat) (X Y : List α), X.length + Y.length < n → (mg key n X Y).length = X.length + Y.length := by
  intro n
  induction n with
  | zero => intro X Y h; omega
  | succ n ih =>
    intro X Y hn
    cases X with
    | nil => cases Y <;> simp [mg]
    | cons x X =>
      cases Y with
      | nil => rfl
      | cons y Y =>
        rw [List.length_cons, List.length_cons] at hn
        show (if key x ≤ key y then x :: mg key n X (y :: Y) else y :: mg key n (x :: X) Y).length = _
        by_cases c : key x ≤ key y
        · rw [if_pos c, List.length_cons, ih X (y :: Y) (by rw [List.length_cons]; omega)]
          simp only [List.length_cons]; omega
        · rw [if_neg c, List.length_cons, ih (x :: X) Y (by rw [List.length_cons]; omega)]
          simp only [List.length_cons]; omega
theorem mg_stS {α : Type} {key : α → Int} {n : Nat} {X Y X' Y' : List α} (hn : X'.length + Y'.length < n) (hX : stS key X X') (hY : stS key Y Y') : stS key (X ++ Y) (mg key n X' Y') := ⟨mg_srt n X' Y' hn hX.1 hY.1, fun v => by rw [mg_flt v n X' Y' hn hX.1 hY.1, flt_app, hX.2, hY.2]⟩
/-- blocks of w, each sorted -/
def bsS {α : Type} (key : α → Int) (w : Nat) : Nat → List α → List α → Prop
  | 0, X, A => X = [] ∧ A = []
  | k + 1, X, A => X.length = A.length ∧ stS key (X.take w) (A.take w) ∧ bsS key w k (X.drop w) (A.drop w)
/-- one pass -/
def psS {α : Type} (key : α → Int) (w : Nat) : Nat → List α → List α
  | 0, _ => []
  | k + 1, A => mg key (2 * w + 1) (A.take w) ((A.drop w).take w) ++ psS key w k (A.drop (2 * w))
theorem bs_nil {α : Type} {key : α → Int} {w : Nat} : ∀ (k : Nat), bsS key w k ([] : List α) [] := by
  intro k
  induction k with
  | zero => exact ⟨rfl, rfl⟩
  | succ k ih =>
    refine ⟨rfl, ⟨?_, fun v => ?_⟩, ?_⟩
    · rw [List.take_nil]; exact List.Pairwise.nil
    · rw [List.take_nil]
    · rw [List.drop_nil]; exact ih
theorem bs_len {α : Type} {key : α → Int} {w k : Nat} {X A : List α} (h : bsS key w k X A) : X.length = A.length := by
  cases k with
  | zero => rw [h.1, h.2]
  | succ k => exact h.1
theorem ps_len {α : Type} {key : α → Int} {w : Nat} (hw : 0 < w) : ∀ (k : Nat) (A : List α), A.length ≤ 2 * w * k → (psS key w k A).length = A.length := by
  intro k
  induction k with
  | zero => intro A h; rw [Nat.mul_zero] at h; show ([] : List α).length = _; rw [List.length_nil]; omega
  | succ k ih =>
    intro A h
    show (mg key (2 * w + 1) (A.take w) ((A.drop w).take w) ++ psS key w k (A.drop (2 * w))).length = _
    rw [List.length_append, mg_len _ _ _ (by simp only [List.length_take, List.length_drop]; omega), ih _ (by rw [List.length_drop, Nat.mul_succ] at *; omega)]
    simp only [List.length_take, List.length_drop]
    omega
theorem ps_bs {α : Type} {key : α → Int} {w : Nat} (hw : 0 < w) : ∀ (k : Nat) (X A : List α), X.length ≤ 2 * w * k → bsS key w (2 * k) X A → bsS key (2 * w) k X (psS key w k A) := by
  intro k
  induction k with
  | zero => intro X A h hb; exact ⟨hb.1, rfl⟩
  | succ k ih =>
    intro X A h hb
    have hl := bs_len hb
    have hb : X.length = A.length ∧ stS key (X.take w) (A.take w) ∧ (X.drop w).length = (A.drop w).length ∧ stS key ((X.drop w).take w) ((A.drop w).take w) ∧ bsS key w (2 * k) ((X.drop w).drop w) ((A.drop w).drop w) := hb
    obtain ⟨-, h1, -, h2, h3⟩ := hb
    have e2 : 2 * w = w + w := by omega
    rw [List.drop_drop, List.drop_drop] at h3
    have hlm : (mg key (2 * w + 1) (A.take w) ((A.drop w).take w)).length = (A.take (2 * w)).length := by
      rw [mg_len _ _ _ (by simp only [List.length_take, List.length_drop]; omega)]
      simp only [List.length_take, List.length_drop]
      omega
    have hm := mg_stS (n := 2 * w + 1) (by simp only [List.length_take, List.length_drop]; omega) h1 h2
    have ht : X.take w ++ (X.drop w).take w = X.take (2 * w) := by rw [e2, List.take_add]
    rw [ht] at hm
    refine ⟨by rw [ps_len hw (k + 1) A (by omega)]; exact hl, ?_, ?_⟩
    · show stS key (X.take (2 * w)) ((mg key (2 * w + 1) (A.take w) ((A.drop w).take w) ++ psS key w k (A.drop (2 * w))).take (2 * w))
      by_cases c : 2 * w ≤ A.length
      · have hl2 : (mg key (2 * w + 1) (A.take w) ((A.drop w).take w)).length = 2 * w := by rw [hlm, List.length_take]; omega
        rw [List.take_append_of_le_length (by omega), List.take_of_length_le (l := mg key (2 * w + 1) (A.take w) ((A.drop w).take w)) (by omega)]
        exact hm
      · have hd : A.drop (2 * w) = [] := List.drop_eq_nil_of_le (by omega)
        have hp : psS key w k (A.drop (2 * w)) = [] := by
          rw [hd]
          have := ps_len (key := key) hw k ([] : List α) (by simp)
          exact List.length_eq_zero_iff.mp this
        rw [hp, List.append_nil, List.take_of_length_le (l := mg key (2 * w + 1) (A.take w) ((A.drop w).take w)) (by rw [hlm, List.length_take]; omega)]
        exact hm
    · show bsS key (2 * w) k (X.drop (2 * w)) ((mg key (2 * w + 1) (A.take w) ((A.drop w).take w) ++ psS key w k (A.drop (2 * w))).drop (2 * w))
      have hd : (mg key (2 * w + 1) (A.take w) ((A.drop w).take w) ++ psS key w k (A.drop (2 * w))).drop (2 * w) = psS key w k (A.drop (2 * w)) := by
        by_cases c : 2 * w ≤ A.length
        · have hl2 : (mg key (2 * w + 1) (A.take w) ((A.drop w).take w)).length = 2 * w := by rw [hlm, List.length_take]; omega
          rw [List.drop_append_of_le_length (by omega), List.drop_of_length_le (by omega), List.nil_append]
        · have hd : A.drop (2 * w) = [] := List.drop_eq_nil_of_le (by omega)
          have hp : psS key w k (A.drop (2 * w)) = [] := by
            rw [hd]
            have := ps_len (key := key) hw k ([] : List α) (by simp)
            exact List.length_eq_zero_iff.mp this
          rw [hp, List.append_nil, List.drop_eq_nil_of_le (by rw [hlm, List.length_take]; omega)]
      rw [hd]
      refine ih _ _ (by rw [List.length_drop, Nat.mul_succ] at *; omega) ?_
      rw [e2]
      exact h3
