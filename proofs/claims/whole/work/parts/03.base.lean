/-! base: what every walk uses; own rows -/
theorem zz_pos {α : Type} {c : Prop} [Decidable c] {a b y : α} (hc : c) (h : (if c then a else b) = y) : a = y := by
  rw [if_pos hc] at h; exact h
theorem zz_neg {α : Type} {c : Prop} [Decidable c] {a b y : α} (hc : ¬ c) (h : (if c then a else b) = y) : b = y := by
  rw [if_neg hc] at h; exact h
/-- an index is looked at: outside its row there is no answer -/
def chk {α : Type} (i : Int32) (n : Nat) (x : Option α) : Option α := if i < 0 ∨ n ≤ i.toNatClampNeg then none else x
theorem chk_of {α : Type} {i : Int32} {n : Nat} {x : Option α} {y : α} (h : chk i n x = some y) : vp_in i n ∧ x = some y := by
  unfold chk at h
  split at h
  · cases h
  · rename_i hc; exact ⟨hc, h⟩
theorem chk_in {α : Type} {i : Int32} {n : Nat} {x : Option α} (h : vp_in i n) : chk i n x = x := if_neg h
/-- a divisor is looked at -/
def nz32 {α : Type} (i : Int32) (x : Option α) : Option α := if i = 0 then none else x
theorem nz32_of {α : Type} {i : Int32} {x : Option α} {y : α} (h : nz32 i x = some y) : ¬ i = 0 ∧ x = some y := by
  unfold nz32 at h
  split at h
  · cases h
  · rename_i hc; exact ⟨hc, h⟩
def nz64 {α : Type} (i : Int64) (x : Option α) : Option α := if i = 0 then none else x
theorem nz64_of {α : Type} {i : Int64} {x : Option α} {y : α} (h : nz64 i x = some y) : ¬ i = 0 ∧ x = some y := by
  unfold nz64 at h
  split at h
  · cases h
  · rename_i hc; exact ⟨hc, h⟩
theorem bnd_of {α β : Type} {o : Option α} {k : α → Option β} {y : β} (h : o.bind k = some y) : ∃ r, o = some r ∧ k r = some y := by
  cases o with
  | none => cases h
  | some r => exact ⟨r, rfl, h⟩
theorem some_of {α : Type} {x y : α} (h : some x = some y) : x = y := Option.some.inj h
/-- a number that is 0 or 1 -/
def bt {α : Type} (i : Int32) (x : Option α) : Option α := if i = 0 ∨ i = 1 then x else none
theorem bt_of {α : Type} {i : Int32} {x : Option α} {y : α} (h : bt i x = some y) : (i = 0 ∨ i = 1) ∧ x = some y := by
  unfold bt at h
  split at h
  · rename_i hc; exact ⟨hc, h⟩
  · cases h
theorem bt_nar {i : Int32} (h : i = 0 ∨ i = 1) : narrow .boolean (.int i) = .int i := by
  rcases h with rfl | rfl <;> decide +kernel
theorem sw_ne {x : Int32} {n : Int} (k : Int32) (hk : k.toInt = n) (h : ¬ x = k) : ¬ x.toInt = n := fun e => h (Int32.toInt_inj.mp (e.trans hk.symm))
/-- the end of a method that leaves the heap as it was -/
def PU (v : Option Value) : Array Value → State → Outcome → State → Prop := fun _ st o t => o = .returned v ∧ t.heap = st.heap
section BASE
variable {p : Program} {l : Launch} {e : Env} {R : Room} {s : State} {m : MethodId} {args : Array Value} {below : List Frame} {meth : Method} {c : Code} {H : Heap} {locs : List Loc} {cells slots : Nat} {Q : State → Prop}
variable {pc : Nat} {ls : Array Slot} {rest st0 : List Value} {a : Array Value}
theorem callP {v : Value} (hr : CallRun p l e R s m args below meth c H locs cells slots 0 0 (F0 m pc ls st0) rest (PU (some v) a) (fun _ => False)) (kk : W p l e R s m args below meth c H locs cells slots Q (F0 m (pc + 3) ls (v :: rest))) : W p l e R s m args below meth c H locs cells slots Q (F0 m pc ls st0) := by
  intro T hT X
  obtain ⟨w, st₀, t, T', L, h0, X', hL, e1, ⟨hv, hh⟩, st⟩ := hr T hT X
  cases hv
  obtain ⟨t2, a1, b1⟩ := kk T' (by rw [e1, hh, h0]) (Stand.forget X' (fun q h => (hL q h).elim))
  exact ⟨t2, st t2 a1, b1⟩
theorem callPN {v : Value} (hr : va_Run p l e R s m args below meth c H locs cells slots 0 0 (F0 m pc ls st0) rest (PU (some v) a) (fun _ => False)) (kk : W p l e R s m args below meth c H locs cells slots Q (F0 m (pc + 3) ls (v :: rest))) : W p l e R s m args below meth c H locs cells slots Q (F0 m pc ls st0) := by
  intro T hT X
  obtain ⟨w, st₀, t, T', L, h0, X', hL, e1, e2, ⟨hv, hh⟩, st⟩ := hr T hT X
  cases hv
  obtain ⟨t2, a1, b1⟩ := kk T' (by rw [e1, hh, h0]) (Stand.forget X' (fun q h => (hL q h).elim))
  exact ⟨t2, st t2 a1, b1⟩
end BASE
theorem va_D_congr {A : Nat → Prop} {w1 w2 : va_W} (h : w1.map (fun q => q.1) = w2.map (fun q => q.1)) (hD : va_D A w1) : va_D A w2 := by
  have key : ∀ (k : Nat) (q : Nat × va_E), w2[k]? = some q → ∃ q1, w1[k]? = some q1 ∧ q1.1 = q.1 := by
    intro k q hk
    have e : (w1.map (fun q => q.1))[k]? = (w2.map (fun q => q.1))[k]? := by rw [h]
    rw [List.getElem?_map, List.getElem?_map, hk] at e
    cases h1 : w1[k]? with
    | none => rw [h1] at e; cases e
    | some q1 => rw [h1] at e; exact ⟨q1, rfl, Option.some.inj e⟩
  refine ⟨fun i j x y hi hj hxy => ?_, fun k q hk => ?_⟩
  · obtain ⟨x1, a1, b1⟩ := key i x hi
    obtain ⟨y1, a2, b2⟩ := key j y hj
    exact hD.1 i j x1 y1 a1 a2 (b1.trans (hxy.trans b2.symm))
  · obtain ⟨q1, a1, b1⟩ := key k q hk
    rw [← b1]
    exact hD.2 k q1 a1
