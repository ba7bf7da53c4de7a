/-! the class's sort: all of it -/
def rfl8 (ρ : Nat → Nat) (r : Nat) (L : List Nat) : List Nat := L.filter fun v => decide (ρ v = r)
theorem rn_cons (ρ : Nat → Nat) (r v : Nat) (L : List Nat) : rn ρ r (v :: L) = rn ρ r L + (if ρ v = r then 1 else 0) := by
  unfold rn
  by_cases g : ρ v = r
  · rw [if_pos g]; simp [List.filter_cons, g]
  · rw [if_neg g]; simp [List.filter_cons, g]
theorem rst_cons (ρ : Nat → Nat) (v : Nat) (L : List Nat) : ∀ k, rst ρ (v :: L) k = rst ρ L k + (if ρ v < k then 1 else 0) := by
  intro k
  induction k with
  | zero => show 0 = 0 + (if ρ v < 0 then 1 else 0); rw [if_neg (by omega)]
  | succ k ih =>
    show rst ρ (v :: L) k + rn ρ k (v :: L) = rst ρ L k + rn ρ k L + _
    rw [ih, rn_cons]
    by_cases g : ρ v < k
    · rw [if_pos g, if_neg (by omega), if_pos (by omega)]; omega
    · by_cases g2 : ρ v = k
      · rw [if_neg g, if_pos g2, if_pos (by omega)]; omega
      · rw [if_neg g, if_neg g2, if_neg (by omega)]; omega
theorem rst_8 {ρ : Nat → Nat} (hρ : ∀ v, ρ v < 8) : ∀ L : List Nat, rst ρ L 8 = L.length := by
  intro L
  induction L with
  | nil => rfl
  | cons v L ih => rw [rst_cons, ih, if_pos (hρ v), List.length_cons]
theorem rst_mono (ρ : Nat → Nat) (L : List Nat) : ∀ m r, rst ρ L r ≤ rst ρ L (r + m) := by
  intro m
  induction m with
  | zero => intro r; exact Nat.le_refl _
  | succ m ih =>
    intro r
    have := ih r
    show rst ρ L r ≤ rst ρ L (r + m) + rn ρ (r + m) L
    omega
theorem rn_take (ρ : Nat → Nat) (r i : Nat) (L : List Nat) : rn ρ r (L.take i) ≤ rn ρ r L := by
  unfold rn
  exact (List.Sublist.filter _ (List.take_sublist i L)).length_le
theorem place_loop {N : Nat} {ρ : Nat → Nat} {t a n2 n3 : Nat} {L : List Nat} (ht : t < 4) (hL : L.length ≤ 4096) (ha : a + L.length ≤ n2) (hn2 : n2 < 2 ^ 31) (hn3 : L.length ≤ n3) (hn3' : n3 < 2 ^ 31) (hv : ∀ v, v ∈ L → v < 4096) (hρ : ∀ v, ρ v < 8) (K : CSt → Int32 → Int32 → Option CSt) : ∀ (n m i : Nat) (σ : CSt), i + m = L.length → m < n → σ.2.2.2.2.2 402 = n2 → σ.2.2.2.2.2 403 = n3 → Seg (σ.2.2.1 402) a L → (∀ v, v ∈ L → σ.2.2.1 406 (v / 8 ^ t % 8) = nI (ρ v)) → (∀ r, r < 8 → σ.2.2.1 407 r = nI (rst ρ L r + rn ρ r (L.take i))) → (∀ r, r < 8 → Seg (σ.2.2.1 403) (rst ρ L r) (rfl8 ρ r (L.take i))) → ∃ σ', fR_sort_L149 N K n σ (nI a) (nI (a + L.length)) (nI t) (nI (a + i)) = K σ' (nI a) (nI (a + L.length)) ∧ (σ'.1 = σ.1 ∧ σ'.2.1 = σ.2.1 ∧ (∀ k, k ≠ 403 → k ≠ 407 → σ'.2.2.1 k = σ.2.2.1 k) ∧ σ'.2.2.2 = σ.2.2.2) ∧ ∀ r, r < 8 → Seg (σ'.2.2.1 403) (rst ρ L r) (rfl8 ρ r L) := by
  intro n
  induction n with
  | zero => intro m i σ _ h; omega
  | succ n ih =>
    intro m i σ hi hn hl2 hl3 s2 h6 h7 h3
    rw [fR_sort_L149]
    cases m with
    | zero =>
      rw [if_pos (nI_le (by omega) (by omega))]
      refine ⟨σ, rfl, ⟨rfl, rfl, fun _ _ _ => rfl, rfl⟩, fun r hr => ?_⟩
      have := h3 r hr
      rw [List.take_of_length_le (by omega)] at this
      exact this
    | succ m =>
      have hx : L[i]? = some L[i] := List.getElem?_eq_getElem (by omega)
      generalize L[i] = v at hx
      have hvm := List.mem_of_getElem? hx
      have hr := hρ v
      have hv4 := hv v hvm
      have e2 := s2 i v hx
      have hd : v / 8 ^ t % 8 < 8 := Nat.mod_lt _ (by omega)
      have ets : L.take (i + 1) = L.take i ++ [v] := by rw [List.take_add_one, hx]; rfl
      have hrn := rn_take ρ (ρ v) (i + 1) L
      rw [ets, rn_snoc, if_pos rfl] at hrn
      have hst : rst ρ L (ρ v + 1) = rst ρ L (ρ v) + rn ρ (ρ v) L := rfl
      have h8 := rst_mono ρ L (8 - (ρ v + 1)) (ρ v + 1)
      rw [show ρ v + 1 + (8 - (ρ v + 1)) = 8 by omega, rst_8 hρ] at h8
      have hp : rst ρ L (ρ v) + rn ρ (ρ v) (L.take i) < n3 := by omega
      rw [if_neg (nI_ge (by omega) (by omega)), hl2, chk_nI (by omega) (by omega), nI_cl (by omega), e2, rowIn_ok N (by omega) ht, bs, chk_nI hd (by omega), nI_cl (by omega), h6 v hvm, chk_nI (by omega) (by omega), chk_nI (by omega) (by omega), nI_cl (by omega), h7 (ρ v) hr, hl3, chk_nI hp (by omega), chk_nI (by omega) (by omega), chk_nI (by omega) (by omega), nI_cl (by omega)]
      have f1 := G1_cA σ 403 (rst ρ L (ρ v) + rn ρ (ρ v) (L.take i)) (nI v)
      have e7 : (cA σ 403 (rst ρ L (ρ v) + rn ρ (ρ v) (L.take i)) (nI v)).2.2.1 407 (ρ v) = nI (rst ρ L (ρ v) + rn ρ (ρ v) (L.take i)) := by rw [f1.2.2.1 407 (by omega)]; exact h7 (ρ v) hr
      rw [e7, nI_1, nI_1, Nat.add_assoc a]
      have f2 := G1_cA (cA σ 403 (rst ρ L (ρ v) + rn ρ (ρ v) (L.take i)) (nI v)) 407 (ρ v) (nI (rst ρ L (ρ v) + rn ρ (ρ v) (L.take i) + 1))
      obtain ⟨σ', a1, a2, a3⟩ := ih m (i + 1) (cA (cA σ 403 (rst ρ L (ρ v) + rn ρ (ρ v) (L.take i)) (nI v)) 407 (ρ v) (nI (rst ρ L (ρ v) + rn ρ (ρ v) (L.take i) + 1))) (by omega) (by omega) hl2 hl3 (by rw [f2.2.2.1 402 (by omega), f1.2.2.1 402 (by omega)]; exact s2) (fun w hw => by rw [f2.2.2.1 406 (by omega), f1.2.2.1 406 (by omega)]; exact h6 w hw) (by
        intro r hr'
        rw [cA_3, if_pos rfl, upd_at, ets, rn_snoc]
        by_cases g : r = ρ v
        · rw [if_pos g, if_pos g.symm, g, Nat.add_assoc]
        · rw [if_neg g, if_neg (fun h => g h.symm), Nat.add_zero, f1.2.2.1 407 (by omega)]
          exact h7 r hr') (by
        intro r hr'
        rw [f2.2.2.1 403 (by omega), ets]
        have hw : rfl8 ρ r (L.take i ++ [v]) = rfl8 ρ r (L.take i) ++ (if ρ v = r then [v] else []) := by
          unfold rfl8
          rw [List.filter_append]
          by_cases g : ρ v = r
          · rw [if_pos g]; simp [List.filter_cons, g]
          · rw [if_neg g]; simp [List.filter_cons, g]
        have hlr : (rfl8 ρ r (L.take i)).length = rn ρ r (L.take i) := rfl
        have hrr := rn_take ρ r i L
        rw [hw]
        by_cases g : ρ v = r
        · rw [if_pos g]
          refine Seg_app.mpr ⟨Seg_eq (fun j h1 h2 => ?_) (h3 r hr'), Seg_cons.mpr ⟨?_, Seg_nil _ _⟩⟩
          · rw [cA_3, if_pos rfl, upd_at, if_neg (by rw [g]; omega)]
          · rw [cA_3, if_pos rfl, upd_at, if_pos (by rw [hlr, g])]
        · rw [if_neg g, List.append_nil]
          refine Seg_eq (fun j h1 h2 => ?_) (h3 r hr')
          rw [cA_3, if_pos rfl, upd_at, if_neg]
          intro hj
          have es : rst ρ L (r + 1) = rst ρ L r + rn ρ r L := rfl
          by_cases c : r < ρ v
          · have := rst_mono ρ L (ρ v - (r + 1)) (r + 1)
            rw [show r + 1 + (ρ v - (r + 1)) = ρ v by omega] at this
            omega
          · have := rst_mono ρ L (r - (ρ v + 1)) (ρ v + 1)
            rw [show ρ v + 1 + (r - (ρ v + 1)) = r by omega] at this
            omega)
      refine ⟨σ', a1, ⟨a2.1, a2.2.1, fun k k1 k2 => ?_, a2.2.2.2⟩, a3⟩
      rw [a2.2.2.1 k k1 k2, f2.2.2.1 k k2, f1.2.2.1 k k1]
/-- sorted by rank -/
def byR (ρ : Nat → Nat) (L : List Nat) : Nat → List Nat
  | 0 => []
  | r + 1 => byR ρ L r ++ rfl8 ρ r L
theorem byR_len (ρ : Nat → Nat) (L : List Nat) : ∀ k, (byR ρ L k).length = rst ρ L k := by
  intro k
  induction k with
  | zero => rfl
  | succ k ih => show (byR ρ L k ++ rfl8 ρ k L).length = rst ρ L k + rn ρ k L; rw [List.length_append, ih]; rfl
theorem byR_seg {ρ : Nat → Nat} {L : List Nat} {f : Nat → Int32} (h : ∀ r, r < 8 → Seg f (rst ρ L r) (rfl8 ρ r L)) : ∀ k, k ≤ 8 → Seg f 0 (byR ρ L k) := by
  intro k
  induction k with
  | zero => intro _; exact Seg_nil _ _
  | succ k ih =>
    intro hk
    refine Seg_app.mpr ⟨ih (by omega), ?_⟩
    rw [byR_len, Nat.zero_add]
    exact h k (by omega)
theorem byR_mem {ρ : Nat → Nat} {L : List Nat} {v : Nat} : ∀ k, v ∈ byR ρ L k → v ∈ L ∧ ρ v < k := by
  intro k
  induction k with
  | zero => intro h; exact absurd h List.not_mem_nil
  | succ k ih =>
    intro h
    rcases List.mem_append.mp h with g | g
    · obtain ⟨h1, h2⟩ := ih g
      exact ⟨h1, by omega⟩
    · have := List.mem_filter.mp g
      have e := of_decide_eq_true this.2
      exact ⟨this.1, by omega⟩
theorem byR_stS {ρ : Nat → Nat} (hρ : ∀ v, ρ v < 8) (L : List Nat) : stS (fun v => (ρ v : Int)) L (byR ρ L 8) := by
  constructor
  · have : ∀ k, srt (fun v => (ρ v : Int)) (byR ρ L k) := by
      intro k
      induction k with
      | zero => exact List.Pairwise.nil
      | succ k ih =>
        refine List.pairwise_append.mpr ⟨ih, ?_, ?_⟩
        · refine List.pairwise_iff_forall_sublist.mpr ?_
          intro x y hxy
          have hx := List.mem_filter.mp (hxy.subset (by simp : x ∈ [x, y]))
          have hy := List.mem_filter.mp (hxy.subset (by simp : y ∈ [x, y]))
          have ex := of_decide_eq_true hx.2
          have ey := of_decide_eq_true hy.2
          show (ρ x : Int) ≤ (ρ y : Int)
          omega
        · intro x hx y hy
          have h1 := (byR_mem k hx).2
          have ey := of_decide_eq_true (List.mem_filter.mp hy).2
          show (ρ x : Int) ≤ (ρ y : Int)
          omega
    exact this 8
  · intro v
    have key : ∀ k, flt (fun v => (ρ v : Int)) v (byR ρ L k) = if 0 ≤ v ∧ v < k then flt (fun v => (ρ v : Int)) v L else [] := by
      intro k
      induction k with
      | zero => rw [if_neg (by omega)]; rfl
      | succ k ih =>
        show flt _ v (byR ρ L k ++ rfl8 ρ k L) = _
        rw [flt_app, ih]
        by_cases c : v = (k : Int)
        · rw [if_neg (by omega), if_pos (by omega), List.nil_append]
          unfold flt rfl8
          rw [List.filter_filter]
          refine List.filter_congr ?_
          intro x _
          rw [← Bool.decide_and, decide_eq_decide]
          constructor
          · exact fun h => h.1
          · intro h
            have h' : (ρ x : Int) = v := h
            exact ⟨h, by omega⟩
        · have : flt (fun v => (ρ v : Int)) v (rfl8 ρ k L) = [] := by
            refine flt_nil ?_
            intro x hx e
            have := of_decide_eq_true (List.mem_filter.mp hx).2
            have e : (ρ x : Int) = v := e
            omega
          rw [this, List.append_nil]
          by_cases d : 0 ≤ v ∧ v < k
          · rw [if_pos d, if_pos (by omega)]
          · rw [if_neg d, if_neg (by omega)]
    rw [key]
    by_cases d : 0 ≤ v ∧ v < (8 : Nat)
    · rw [if_pos d]
    · rw [if_neg d]
      symm
      refine flt_nil ?_
      intro x _ e
      have := hρ x
      have e : (ρ x : Int) = v := e
      omega
/-- what sorting changes in the class -/
def GS (σ σ' : CSt) : Prop := σ'.1 = σ.1 ∧ (∀ k, k ≠ 402 → k ≠ 403 → k ≠ 406 → k ≠ 407 → σ'.2.2.1 k = σ.2.2.1 k) ∧ σ'.2.2.2 = σ.2.2.2
theorem sort_C {N : Nat} (hN : 5000 ≤ N) {q : Qd} (hq : WfQ q) {σ : CSt} (hC : CQd q σ) {t c a n2 n3 : Nat} {L : List Nat} (ht : t < qT q) (hc : c < 3) (hL : L.length ≤ 4096) (ha : a + L.length ≤ n2) (hn2 : n2 < 2 ^ 31) (hn3 : L.length ≤ n3) (hn3' : n3 < 2 ^ 31) (h402 : σ.2.2.2.2.2 402 = n2) (h403 : σ.2.2.2.2.2 403 = n3) (hs : Seg (σ.2.2.1 402) a L) (hv : ∀ v, v ∈ L → v < 4096 ∧ v / 8 ^ t % 8 < qr q t) : ∃ σ' M, fR_sort N σ (nI a) (nI (a + L.length)) (nI t) (nI c) = some σ' ∧ stS (kv q t c) L M ∧ M.length = L.length ∧ Seg (σ'.2.2.1 402) a M ∧ (∀ j, (j < a ∨ a + L.length ≤ j) → σ'.2.2.1 402 j = σ.2.2.1 402 j) ∧ GS σ σ' := by
  have hT := hq.1
  have h8 := hq.2.2.1 t
  unfold fR_sort
  have hsub : nI (a + L.length) - nI a = nI L.length := by rw [nI_sub (by omega), Nat.add_sub_cancel_left]
  rw [fQ_isField_t hC hT ht (isK_nat.mpr ⟨c, hc, rfl⟩), bs, if_neg n10, if_neg (nI_pos (by omega)), h402, h403, hsub]
  rw [if_neg (show ¬ Int32.ofNat n2 < nI (a + L.length) from nI_nlt (by omega) (by omega)), if_pos (show nI L.length ≤ Int32.ofNat n3 from nI_le hn3 (by omega))]
  obtain ⟨σ1, a1, a2, a3⟩ := ranks_ok (N := N) (by omega) hq (show t < 4 by omega) hc N 8 0 σ (by omega) (by omega) hC (fun j hj => by omega)
  rw [nI_0] at a1
  unfold fR_findRanks
  rw [a1, bs]
  obtain ⟨σ2, b1, b2, b3⟩ := zero_loop (N := N) (fun (σ : CSt) (x1 : Int32) (x2 : Int32) (x3 : Int32) => fR_sort_L72 N (fun (σ : CSt) (x1 : Int32) (x2 : Int32) (x3 : Int32) => fR_sort_L114 N (fun (σ : CSt) (x1 : Int32) (x2 : Int32) (x3 : Int32) => fR_sort_L149 N (fun (σ : CSt) (x1 : Int32) (x2 : Int32) => cpk (σ.2.2.2.2.2 403) (σ.2.2.2.2.2 402) (0 : Int32) x1 (if (0 : Int32) < (x2 - x1) then (x2 - x1) else (0 : Int32)) (some (cX σ 402 (va_cpy (σ.2.2.1 403) (σ.2.2.1 402) (0 : Int32).toNatClampNeg x1.toNatClampNeg (if (0 : Int32) < (x2 - x1) then (x2 - x1) else (0 : Int32)).toNatClampNeg)))) N σ x1 x2 x3 x1) N σ x1 x2 x3 (1 : Int32)) N σ x1 x2 x3 x1) (nI a) (nI (a + L.length)) (nI t) N 9 0 σ1 (by omega) (by omega) (fun j hj => by omega)
  rw [nI_0] at b1
  rw [b1]
  have hrk : ∀ v, rk σ1 q t c (v / 8 ^ t % 8) < 8 := fun v => by unfold rk; omega
  have hd8 : ∀ v, v / 8 ^ t % 8 < 8 := fun v => Nat.mod_lt _ (by omega)
  obtain ⟨σ3, c1, c2, c3, c4⟩ := count_loop (N := N) (ρ := fun v => rk σ1 q t c (v / 8 ^ t % 8)) (t := t) (a := a) (n2 := n2) (L := L) (by omega) hL ha hn2 (fun v h => (hv v h).1) hrk (fun (σ : CSt) (x1 : Int32) (x2 : Int32) (x3 : Int32) => fR_sort_L114 N (fun (σ : CSt) (x1 : Int32) (x2 : Int32) (x3 : Int32) => fR_sort_L149 N (fun (σ : CSt) (x1 : Int32) (x2 : Int32) => cpk (σ.2.2.2.2.2 403) (σ.2.2.2.2.2 402) (0 : Int32) x1 (if (0 : Int32) < (x2 - x1) then (x2 - x1) else (0 : Int32)) (some (cX σ 402 (va_cpy (σ.2.2.1 403) (σ.2.2.1 402) (0 : Int32).toNatClampNeg x1.toNatClampNeg (if (0 : Int32) < (x2 - x1) then (x2 - x1) else (0 : Int32)).toNatClampNeg)))) N σ x1 x2 x3 x1) N σ x1 x2 x3 (1 : Int32)) N L.length 0 σ2 (by omega) (by omega) (by rw [b2.2.2.2, a2.2.2.2]; exact h402) (by rw [b2.2.2.1 402 (by omega), a2.2.2.1 402 (by omega)]; exact hs) (fun v _ => by rw [b2.2.2.1 406 (by omega)]; exact a3 _ (hd8 v)) (b3 0 (by omega)) (fun r hr => by rw [b3 _ (by omega)]; rfl)
  rw [Nat.add_zero] at c1
  rw [c1]
  obtain ⟨σ4, d1, d2, d3⟩ := pref_loop (N := N) (ρ := fun v => rk σ1 q t c (v / 8 ^ t % 8)) (L := L) hL (fun (σ : CSt) (x1 : Int32) (x2 : Int32) (x3 : Int32) => fR_sort_L149 N (fun (σ : CSt) (x1 : Int32) (x2 : Int32) => cpk (σ.2.2.2.2.2 403) (σ.2.2.2.2.2 402) (0 : Int32) x1 (if (0 : Int32) < (x2 - x1) then (x2 - x1) else (0 : Int32)) (some (cX σ 402 (va_cpy (σ.2.2.1 403) (σ.2.2.1 402) (0 : Int32).toNatClampNeg x1.toNatClampNeg (if (0 : Int32) < (x2 - x1) then (x2 - x1) else (0 : Int32)).toNatClampNeg)))) N σ x1 x2 x3 x1) (nI a) (nI (a + L.length)) (nI t) N 8 1 σ3 (by omega) (by omega) (by omega) (by
    intro j hj
    have : j = 0 := by omega
    rw [this, c3]
    rfl) (fun r _ hr => c4 r hr)
  rw [show nI 1 = (1 : Int32) from rfl] at d1
  rw [d1]
  obtain ⟨σ5, e1, e2, e3⟩ := place_loop (N := N) (ρ := fun v => rk σ1 q t c (v / 8 ^ t % 8)) (t := t) (a := a) (n2 := n2) (n3 := n3) (L := L) (by omega) hL ha hn2 hn3 hn3' (fun v h => (hv v h).1) hrk (fun (σ : CSt) (x1 : Int32) (x2 : Int32) => cpk (σ.2.2.2.2.2 403) (σ.2.2.2.2.2 402) (0 : Int32) x1 (if (0 : Int32) < (x2 - x1) then (x2 - x1) else (0 : Int32)) (some (cX σ 402 (va_cpy (σ.2.2.1 403) (σ.2.2.1 402) (0 : Int32).toNatClampNeg x1.toNatClampNeg (if (0 : Int32) < (x2 - x1) then (x2 - x1) else (0 : Int32)).toNatClampNeg)))) N L.length 0 σ4 (by omega) (by omega) (by rw [d2.2.2.2, c2.2.2.2, b2.2.2.2, a2.2.2.2]; exact h402) (by rw [d2.2.2.2, c2.2.2.2, b2.2.2.2, a2.2.2.2]; exact h403) (by rw [d2.2.2.1 402 (by omega), c2.2.2.1 402 (by omega), b2.2.2.1 402 (by omega), a2.2.2.1 402 (by omega)]; exact hs) (fun v _ => by rw [d2.2.2.1 406 (by omega), c2.2.2.1 406 (by omega), b2.2.2.1 406 (by omega)]; exact a3 _ (hd8 v)) (fun r hr => by rw [d3 r (by omega)]; rfl) (fun r hr => Seg_nil _ _)
  rw [Nat.add_zero] at e1
  have e24 : σ5.2.2.2 = σ.2.2.2 := by rw [e2.2.2.2, d2.2.2.2, c2.2.2.2, b2.2.2.2, a2.2.2.2]
  have hcl : (if (0 : Int32) < nI L.length then nI L.length else (0 : Int32)) = nI L.length := by
    by_cases g : 0 < L.length
    · rw [if_pos (show (0 : Int32) < nI L.length from nI_lt (a := 0) g (by omega))]
    · rw [show L.length = 0 by omega]; rfl
  rw [e1, hsub, hcl, nI_cl (by omega), nI_cl (by omega), show (0 : Int32).toNatClampNeg = 0 from rfl, e24, h402, h403]
  unfold cpk
  rw [if_neg (by
    rw [nI_cl (show a < 2 ^ 31 by omega), nI_cl (show L.length < 2 ^ 31 by omega), show (0 : Int32).toNatClampNeg = 0 from rfl]
    rintro (h | h | h | h | h)
    · exact absurd h (by decide)
    · exact nI_pos (by omega) h
    · exact nI_pos (by omega) h
    · omega
    · omega)]
  have e402 : σ5.2.2.1 402 = σ.2.2.1 402 := by rw [e2.2.2.1 402 (by omega) (by omega), d2.2.2.1 402 (by omega), c2.2.2.1 402 (by omega), b2.2.2.1 402 (by omega), a2.2.2.1 402 (by omega)]
  have lM : (byR (fun v => rk σ1 q t c (v / 8 ^ t % 8)) L 8).length = L.length := by rw [byR_len, rst_8 hrk]
  refine ⟨_, byR (fun v => rk σ1 q t c (v / 8 ^ t % 8)) L 8, rfl, ?_, lM, ?_, ?_, ?_⟩
  · refine stS_key ?_ (byR_stS hrk L)
    intro x y hx hy
    have vx := (hv x hx).2
    have vy := (hv y hy).2
    have C1 := CQd_G1 (show 312 < 406 by omega) a2 hC
    have fx : ∀ r, r < qr q t → fdv σ1 t c r = qv q t r c := fun r hr => C1.2.2.2.2.2.1 t r c (by omega) hr hc
    have mx : rk σ1 q t c (x / 8 ^ t % 8) = rcnt (fdv σ1 t c) (x / 8 ^ t % 8) (qr q t) := by
      have := rcnt_lt (fdv σ1 t c) (qr q t) vx
      unfold rk
      omega
    have my : rk σ1 q t c (y / 8 ^ t % 8) = rcnt (fdv σ1 t c) (y / 8 ^ t % 8) (qr q t) := by
      have := rcnt_lt (fdv σ1 t c) (qr q t) vy
      unfold rk
      omega
    show ((rk σ1 q t c (x / 8 ^ t % 8) : Nat) : Int) ≤ (rk σ1 q t c (y / 8 ^ t % 8) : Nat) ↔ kv q t c x ≤ kv q t c y
    unfold kv
    rw [mx, my, ← fx _ vx, ← fx _ vy, ← Int32.le_iff_toInt_le]
    constructor
    · intro h
      refine Int32.not_lt.mp fun g => ?_
      have := rcnt_str (fdv σ1 t c) g (qr q t) vy
      omega
    · intro h
      have := rcnt_mono (fdv σ1 t c) h (qr q t)
      omega
  · have sg := byR_seg e3 8 (Nat.le_refl _)
    intro j v hj
    have hl := (List.getElem?_eq_some_iff.mp hj).1
    have := sg j v hj
    rw [cX_3, if_pos rfl]
    unfold va_cpy
    rw [if_pos (by omega), Nat.add_sub_cancel_left]
    exact this
  · intro j hj
    rw [cX_3, if_pos rfl]
    unfold va_cpy
    rw [if_neg (by omega), e402]
  · refine ⟨?_, fun k k1 k2 k3 k4 => ?_, e24⟩
    · rw [cX_1, e2.1, d2.1, c2.1, b2.1, a2.1]
    · rw [cX_3, if_neg k1, e2.2.2.1 k k2 k4, d2.2.2.1 k k4, c2.2.2.1 k k4, b2.2.2.1 k k4, a2.2.2.1 k k3]
