/-! the class: forms of contracts, calls, new plans -/
theorem sub_tr {g1 g2 g3 : Gh} (h1 : sub g1 g2) (h2 : sub g2 g3) : sub g1 g3 := fun x h => h2 x (h1 x h)
theorem sub_eq {g g' : Gh} (h : g'.2.2.2 = g.2.2.2) : sub g g' := fun x hx => by rw [h]; exact hx
theorem sub_eq2 {g g' : Gh} (h : g'.2.2 = g.2.2) : sub g g' := fun x hx => by rw [h]; exact hx
theorem pr_in {L : List (Nat × Pl)} {q : Nat} {x : Pl} (h : (q, x) ∈ L) : pr L (some q) (some x) := h
def PUq (post : Option Nat → Prop) : Array Value → State → Outcome → State → Prop := fun _ st o t => ∃ r : Option Nat, o = .returned (some (va_rf r)) ∧ post r ∧ t.heap = st.heap
def PRC (D : va_G) (κ : Nat → ClassId) (ρ : Nat → Nat) (g : Gh) (σ : CSt) (U : State) : Prop := RC D κ ρ g σ U U.heap
def PC (D : va_G) (κ : Nat → ClassId) (ρ : Nat → Nat) (sz : Nat) (g : Gh) (σ : CSt) (U : State) : Prop := U.heap.size = sz ∧ RC D κ ρ g σ U U.heap ∧ va_D (fun _ => True) (cellsC κ ρ g σ)
def QC (D : va_G) (κ : Nat → ClassId) (ρ : Nat → Nat) (sz : Nat) (g0 : Gh) (σ : CSt) (v : Option Value) : Array Value → State → Outcome → State → Prop := fun _ st oc t => oc = .returned v ∧ ∃ g : Gh, sub g0 g ∧ RC D κ ρ g σ t t.heap ∧ va_D (AC ρ g0 sz) (cellsC κ ρ g σ) ∧ va_F (AC ρ g0 sz) st t
def QCq (D : va_G) (κ : Nat → ClassId) (ρ : Nat → Nat) (sz : Nat) (g0 : Gh) (σ : CSt) (o : Option Pl) : Array Value → State → Outcome → State → Prop := fun _ st oc t => ∃ (z : Option Nat) (g : Gh), oc = .returned (some (va_rf z)) ∧ pr g.2.2.2 z o ∧ sub g0 g ∧ RC D κ ρ g σ t t.heap ∧ va_D (AC ρ g0 sz) (cellsC κ ρ g σ) ∧ va_F (AC ρ g0 sz) st t
theorem RC.call {D : va_G} {κ : Nat → ClassId} {ρ : Nat → Nat} {g : Gh} {σ : CSt} {U : State} {f : JFrame} {mk : MethodId} {a : Array Value} (h : RC D κ ρ g σ U U.heap) : RC D κ ρ g σ (U.calling f mk a) (U.calling f mk a).heap := ⟨h.1, va_K.moved (u := U) (U := U.calling f mk a) (Vm.Alike.refl U.vm) h.2.1, h.2.2.1, va_Nw.same (u := U) (U := U.calling f mk a) rfl rfl h.2.2.2⟩
theorem RC.moved {D : va_G} {κ : Nat → ClassId} {ρ : Nat → Nat} {g : Gh} {σ : CSt} {s U : State} {H : Heap} (h : RC D κ ρ g σ s H) (hU : U.heap = H) (hW : s.WarmedH U.vm) : RC D κ ρ g σ U U.heap := ⟨by rw [hU]; exact h.1, va_K.moved hW.alike h.2.1, h.2.2.1, va_Nw.warmM hW h.2.2.2⟩
theorem PRC.blind {D : va_G} {κ : Nat → ClassId} {ρ : Nat → Nat} {g : Gh} {σ : CSt} {av : List Value} : FrameBlind (va_Pc av (PRC D κ ρ g σ)) := fun a U f mk q => ⟨q.1, RC.call q.2⟩
theorem PC.blind {D : va_G} {κ : Nat → ClassId} {ρ : Nat → Nat} {sz : Nat} {g : Gh} {σ : CSt} {av : List Value} : FrameBlind (va_Pc av (PC D κ ρ sz g σ)) := fun a U f mk q => ⟨q.1, q.2.1, RC.call q.2.2.1, q.2.2.2⟩
theorem AC_self {κ : Nat → ClassId} {ρ : Nat → Nat} {g : Gh} {σ : CSt} {A : Nat → Prop} {sz : Nat} (h : va_D A (cellsC κ ρ g σ)) : va_D (AC ρ g sz) (cellsC κ ρ g σ) := ⟨h.1, fun k q hk => by
  refine Or.inl ?_
  rw [← adC_eq κ ρ g σ]
  exact List.mem_map.mpr ⟨q, List.mem_of_getElem? hk, rfl⟩⟩
theorem AC_in {κ : Nat → ClassId} {ρ : Nat → Nat} {g : Gh} {σ : CSt} {A : Nat → Prop} (h : va_D A (cellsC κ ρ g σ)) {a : Nat} (ha : a ∈ adC ρ g) : A a := by
  rw [← adC_eq κ ρ g σ] at ha
  obtain ⟨q, hq, e⟩ := List.mem_map.mp ha
  obtain ⟨k, hk⟩ := List.getElem?_of_mem hq
  rw [← e]
  exact h.2 k q hk
section CB
variable {p : Program} {l : Launch} {e : Env} {R : Room} {s : State} {m : MethodId} {args : Array Value} {below : List Frame} {meth : Method} {c : Code} {H : Heap} {locs : List Loc} {cells slots : Nat} {Q : State → Prop}
variable {cc : ByteArray} {nL : Nat} {Ts : List Cond} {own : String} {pc : Nat} {ls : Array Slot} {rest st0 : List Value} {D : va_G} {κ : Nat → ClassId} {ρ : Nat → Nat} {g : Gh} {σ : CSt} {A : Nat → Prop} {H0 : Heap} {a : Array Value}
theorem preT {As : List Value} : PreS s H (va_Pc As (fun _ => True)) As := ⟨fun _ _ _ _ q => q, fun _ _ _ => ⟨rfl, trivial⟩⟩
theorem preR {C : String} {b : Nat} {As : List Value} (rc : ∃ cell : Cell, H[b]? = some cell ∧ cell.vm.isStatics = false ∧ s.vm.findClass C = some cell.cls) (hw : RC D κ ρ g σ s H) : PreV s H C b (va_Pc (.ref b :: As) (PRC D κ ρ g σ)) As := ⟨PRC.blind, rc, fun _ hU hW => ⟨rfl, hw.moved hU hW⟩⟩
theorem preM {C : String} {b : Nat} {As : List Value} (rc : ∃ cell : Cell, H[b]? = some cell ∧ cell.vm.isStatics = false ∧ s.vm.findClass C = some cell.cls) (hw : WC D κ ρ A H0 g σ s H locs) : PreV s H C b (va_Pc (.ref b :: As) (PC D κ ρ H.size g σ)) As := ⟨PC.blind, rc, fun _ hU hW => ⟨rfl, by rw [hU], hw.1.moved hU hW, hw.2.1.weaken (fun _ _ _ _ => trivial)⟩⟩
theorem callPq {post : Option Nat → Prop} (hr : CallRun p l e R s m args below meth c H locs cells slots 0 0 (F0 m pc ls st0) rest (PUq post a) (fun _ => False)) (kk : ∀ r : Option Nat, post r → W p l e R s m args below meth c H locs cells slots Q (F0 m (pc + 3) ls (va_rf r :: rest))) : W p l e R s m args below meth c H locs cells slots Q (F0 m pc ls st0) := by
  intro T hT X
  obtain ⟨w, st₀, t, T', L, h0, X', hL, e1, ⟨r, hv, hp, hh⟩, st⟩ := hr T hT X
  cases hv
  obtain ⟨t2, a1, b1⟩ := kk r hp T' (by rw [e1, hh, h0]) (Stand.forget X' (fun q h => (hL q h).elim))
  exact ⟨t2, st t2 a1, b1⟩
theorem QC.of {g0 : Gh} {v v' : Option Value} {t : State} (he : Outcome.returned v = .returned v') (hw : WC D κ ρ (AC ρ g0 s.heap.size) s.heap g σ s H locs) (hg : sub g0 g) (ht : t.heap = H) (hW : s.WarmedH t.vm) : QC D κ ρ s.heap.size g0 σ v' args s (.returned v) t := ⟨he, g, hg, hw.1.moved ht hW, hw.2.1, hw.2.2.F ht⟩
theorem QCq.of {g0 : Gh} {z : Option Nat} {o : Option Pl} {t : State} (hz : pr g.2.2.2 z o) (hw : WC D κ ρ (AC ρ g0 s.heap.size) s.heap g σ s H locs) (hg : sub g0 g) (ht : t.heap = H) (hW : s.WarmedH t.vm) : QCq D κ ρ s.heap.size g0 σ o args s (.returned (some (va_rf z))) t := ⟨z, g, rfl, hz, hg, hw.1.moved ht hW, hw.2.1, hw.2.2.F ht⟩
theorem callC {mc ms : Nat} {v : Option Value} {σ' : CSt} (hr : va_Run p l e R s m args below meth c H locs cells slots mc ms (F0 m pc ls st0) rest (QC D κ ρ H.size g σ' v a) (AC ρ g H.size)) (hw : WC D κ ρ A H0 g σ s H locs) (hA : ∀ q, H0.size ≤ q → A q)
    (kk : ∀ (g' : Gh) (H1 : Heap) (locs1 : List Loc), sub g g' → WC D κ ρ A H0 g' σ' s H1 locs1 → W p l e R s m args below meth c H1 locs1 (cells + mc) (slots + ms) Q (F0 m (pc + 3) ls (v.toList ++ rest))) : W p l e R s m args below meth c H locs cells slots Q (F0 m pc ls st0) := by
  have hF : ∀ q, AC ρ g H.size q → A q := fun q h => h.elim (fun h => AC_in hw.2.1 h) (fun h => hA q (Nat.le_trans hw.2.2.1 h))
  intro T hT X
  obtain ⟨w, st₀, t, T', L, h0, X', hL, e1, e2, ⟨hv, g', hs, hR, hD, hz, hk⟩, st⟩ := hr T hT X
  cases hv
  rw [h0] at hz hk
  have hW : t.vm.Alike s.vm := by rw [← e2]; exact X'.warmed.alike.symm
  obtain ⟨t2, a1, b1⟩ := kk g' T'.heap (locs ++ L) hs ⟨⟨by rw [e1]; exact hR.1, va_K.moved hW hR.2.1, hR.2.2.1, hw.1.2.2.2⟩, hD.weaken (fun _ _ _ h => hF _ h),
    ⟨Nat.le_trans hw.2.2.1 (by rw [e1]; exact hz), fun q h1 h2 => by rw [e1, hk q (Nat.lt_of_lt_of_le h1 hw.2.2.1) (fun z => h2 (hF q z))]; exact hw.2.2.2.1 q h1 h2, fun q hq => by
      rcases List.mem_append.mp hq with h | h
      · exact hw.2.2.2.2 q h
      · exact hF _ (hL q h)⟩⟩ T' rfl X'
  exact ⟨t2, st t2 a1, b1⟩
theorem callCq {mc ms : Nat} {o : Option Pl} {σ' : CSt} (hr : va_Run p l e R s m args below meth c H locs cells slots mc ms (F0 m pc ls st0) rest (QCq D κ ρ H.size g σ' o a) (AC ρ g H.size)) (hw : WC D κ ρ A H0 g σ s H locs) (hA : ∀ q, H0.size ≤ q → A q)
    (kk : ∀ (g' : Gh) (z : Option Nat) (H1 : Heap) (locs1 : List Loc), sub g g' → pr g'.2.2.2 z o → WC D κ ρ A H0 g' σ' s H1 locs1 → W p l e R s m args below meth c H1 locs1 (cells + mc) (slots + ms) Q (F0 m (pc + 3) ls (va_rf z :: rest))) : W p l e R s m args below meth c H locs cells slots Q (F0 m pc ls st0) := by
  have hF : ∀ q, AC ρ g H.size q → A q := fun q h => h.elim (fun h => AC_in hw.2.1 h) (fun h => hA q (Nat.le_trans hw.2.2.1 h))
  intro T hT X
  obtain ⟨w, st₀, t, T', L, h0, X', hL, e1, e2, ⟨z, g', hv, hp, hs, hR, hD, hz, hk⟩, st⟩ := hr T hT X
  cases hv
  rw [h0] at hz hk
  have hW : t.vm.Alike s.vm := by rw [← e2]; exact X'.warmed.alike.symm
  obtain ⟨t2, a1, b1⟩ := kk g' z T'.heap (locs ++ L) hs hp ⟨⟨by rw [e1]; exact hR.1, va_K.moved hW hR.2.1, hR.2.2.1, hw.1.2.2.2⟩, hD.weaken (fun _ _ _ h => hF _ h),
    ⟨Nat.le_trans hw.2.2.1 (by rw [e1]; exact hz), fun q h1 h2 => by rw [e1, hk q (Nat.lt_of_lt_of_le h1 hw.2.2.1) (fun z => h2 (hF q z))]; exact hw.2.2.2.1 q h1 h2, fun q hq => by
      rcases List.mem_append.mp hq with h | h
      · exact hw.2.2.2.2 q h
      · exact hF _ (hL q h)⟩⟩ T' rfl X'
  exact ⟨t2, st t2 a1, b1⟩
/-- a plan whose constructor hasn't run yet -/
def raw0 : va_E := .inr (1, [.int 0, .int 0, .long 0, .long 0, .int 0])
theorem va_P_left {cl : List vw_C} {w1 w2 : va_W} (h : va_P D cl (w1 ++ w2) H) : va_P D cl w1 H := fun k q hk => h k q (by rw [List.getElem?_append_left (List.getElem?_eq_some_iff.mp hk).1]; exact hk)
theorem va_D_left {w1 w2 : va_W} (h : va_D A (w1 ++ w2)) : va_D A w1 := by
  have key : ∀ (k : Nat) (q : Nat × va_E), w1[k]? = some q → (w1 ++ w2)[k]? = some q := fun k q hk => by rw [List.getElem?_append_left (List.getElem?_eq_some_iff.mp hk).1]; exact hk
  exact ⟨fun i j x y hi hj hxy => h.1 i j x y (key i x hi) (key j y hj) hxy, fun k q hk => h.2 k q (key k q hk)⟩
theorem cNew (C : CallFix p m c cc nL s args Ts own) (hin : ∀ w ∈ wsX10, w ∈ Ts) (hw : WC D κ ρ A H0 g σ s H locs) (hA : ∀ q, H0.size ≤ q → A q) {index : Nat} (hcl : (Cond.classLink own index RX1).before args s = true) (hinst : (Cond.instantiable RX1 5).before args s = true) (hini : (Cond.initialized RX1).before args s = true) (hcells : cells + 1 ≤ R.cells) (hslots : slots + 5 ≤ R.slots) (hdg : decode cc pc = .ok (.new index, 3))
    (kk : ∀ (u : Nat) (H1 : Heap), WC D κ ρ A H0 g σ s H1 locs → va_P D vwCl (cellsC κ ρ g σ ++ [(u, raw0)]) H1 ∧ va_D A (cellsC κ ρ g σ ++ [(u, raw0)]) → W p l e R s m args below meth c H1 locs (cells + 1) (slots + 5) Q (F0 m (pc + 3) ls (.ref u :: rest))) : W p l e R s m args below meth c H locs cells slots Q (F0 m pc ls rest) := by
  refine va_new (ci := 1) (fs := [.int 0, .int 0, .long 0, .long 0, .int 0]) (C := RX1) (T := TX1) (N := 5) C.1 C.2.1 C.2.2.2.2 hin tyX1 tyX1_ok C.2.2.2.1 hcl hinst hini hw.1.2.1 hw.1.1 hw.2.1 hw.2.2 hA rfl (fun j hj => by rcases (show j = 0 ∨ j = 1 ∨ j = 2 ∨ j = 3 ∨ j = 4 by omega) with rfl | rfl | rfl | rfl | rfl <;> rfl) hcells hslots hdg (fun u H1 hP1 hD1 hS1 => ?_)
  exact kk u H1 ⟨⟨va_P_left hP1, hw.1.2⟩, va_D_left hD1, hS1⟩ ⟨hP1, hD1⟩
theorem cInit {u : Nat} {x : Pl} (hr : va_Run p l e R s m args below meth c H locs cells slots 0 0 (F0 m pc ls st0) rest (va_Qv (fun _ : Unit => True) (fun _ t => va_P D vwCl [(u, .inr (1, plF x))] t.heap) (va_A [(u, raw0)] H.size) a) (va_A [(u, raw0)] H.size)) (hw : WC D κ ρ A H0 g σ s H locs) (hn : va_P D vwCl (cellsC κ ρ g σ ++ [(u, raw0)]) H ∧ va_D A (cellsC κ ρ g σ ++ [(u, raw0)])) (hA : ∀ q, H0.size ≤ q → A q)
    (kk : ∀ (g' : Gh) (H1 : Heap) (locs1 : List Loc), g'.1 = g.1 → sub g g' → (u, x) ∈ g'.2.2.2 → WC D κ ρ A H0 g' σ s H1 locs1 → W p l e R s m args below meth c H1 locs1 cells slots Q (F0 m (pc + 3) ls rest)) : W p l e R s m args below meth c H locs cells slots Q (F0 m pc ls st0) := by
  have hlast : (cellsC κ ρ g σ ++ [(u, raw0)])[(cellsC κ ρ g σ).length]? = some (u, raw0) := by rw [List.getElem?_append_right (Nat.le_refl _), Nat.sub_self]; rfl
  have hF : ∀ q, va_A [(u, raw0)] H.size q → A q := by
    intro q h
    rcases h with ⟨k, e0, h⟩ | h
    · cases k with
      | zero => cases h; exact hn.2.2 _ _ hlast
      | succ k => cases h
    · exact hA q (Nat.le_trans hw.2.2.1 h)
  refine va_callv hr hw.2.2 (fun q _ h => hF q h) hF (fun _ t H1 locs1 ht hvm _ hB hz hk hS => ?_)
  have hB : va_P D vwCl [(u, .inr (1, plF x))] H1 := by rw [← ht]; exact hB
  have hP : va_P D vwCl (cellsC κ ρ g σ) H1 := by
    refine hw.1.1.kept (fun k q hkq => hk q.1 ((hw.1.1 k q hkq).lt) (fun h => ?_))
    rcases h with ⟨k2, e0, h⟩ | h
    · cases k2 with
      | zero =>
        cases h
        have hk2 : (cellsC κ ρ g σ ++ [(q.1, raw0)])[k]? = some q := by rw [List.getElem?_append_left (List.getElem?_eq_some_iff.mp hkq).1]; exact hkq
        have := hn.2.1 k _ q (q.1, raw0) hk2 hlast rfl
        have h3 := (List.getElem?_eq_some_iff.mp hkq).1
        omega
      | succ k2 => cases h
    · exact absurd ((hw.1.1 k q hkq).lt) (Nat.not_lt.mpr h)
  have eC : cellsC κ ρ (g.1, g.2.1, g.2.2.1, g.2.2.2 ++ [(u, x)]) σ = cellsC κ ρ g σ ++ [(u, .inr (1, plF x))] := by
    show fixC κ ρ g σ ++ poolC (g.2.2.2 ++ [(u, x)]) = (fixC κ ρ g σ ++ poolC g.2.2.2) ++ _
    rw [List.append_assoc]
    unfold poolC
    rw [List.map_append]
    rfl
  refine kk (g.1, g.2.1, g.2.2.1, g.2.2.2 ++ [(u, x)]) H1 locs1 rfl (fun y hy => List.mem_append_left _ hy) (List.mem_append_right _ List.mem_cons_self) ⟨⟨?_, hw.1.2.1, fun k i => pr_mono (fun y hy => List.mem_append_left _ hy) (hw.1.2.2.1 k i), hw.1.2.2.2⟩, ?_, hS⟩
  · rw [eC]
    exact hP.app hB
  · rw [eC]
    exact va_D_congr (by rw [List.map_append, List.map_append]; rfl) hn.2
/-- the runner's row stack is another one: positions of the cells -/
theorem va_P_swap {cl : List vw_C} {w : va_W} {x : Nat × va_E} (k0 : Nat) (h : va_P D cl (w ++ [x]) H) : va_P D cl (w.set k0 x) H := by
  intro k q hk
  by_cases hk0 : k0 = k
  · subst hk0
    have hl : k0 < w.length := by
      have := (List.getElem?_eq_some_iff.mp hk).1
      simpa using this
    rw [List.getElem?_set_self hl] at hk
    cases hk
    exact h w.length _ (by rw [List.getElem?_append_right (Nat.le_refl _), Nat.sub_self]; rfl)
  · rw [List.getElem?_set_ne hk0] at hk
    exact h k q (by rw [List.getElem?_append_left (List.getElem?_eq_some_iff.mp hk).1]; exact hk)
theorem va_D_swap {w : va_W} {x : Nat × va_E} (k0 : Nat) (h : va_D A (w ++ [x])) : va_D A (w.set k0 x) := by
  have key : ∀ (k : Nat) (q : Nat × va_E), (w.set k0 x)[k]? = some q → (w ++ [x])[if k0 = k then w.length else k]? = some q := by
    intro k q hk
    by_cases hk0 : k0 = k
    · subst hk0
      have hl : k0 < w.length := by
        have := (List.getElem?_eq_some_iff.mp hk).1
        simpa using this
      rw [List.getElem?_set_self hl] at hk
      rw [if_pos rfl, List.getElem?_append_right (Nat.le_refl _), Nat.sub_self, ← hk]
      rfl
    · rw [List.getElem?_set_ne hk0] at hk
      rw [if_neg hk0, List.getElem?_append_left (List.getElem?_eq_some_iff.mp hk).1]
      exact hk
  refine h.by _ key (fun i j hi hj hij => ?_)
  have hi : i < w.length := by simpa using hi
  have hj : j < w.length := by simpa using hj
  by_cases h1 : k0 = i <;> by_cases h2 : k0 = j
  · omega
  · rw [if_pos h1, if_neg h2] at hij; omega
  · rw [if_neg h1, if_pos h2] at hij; omega
  · rw [if_neg h1, if_neg h2] at hij; exact hij
/-- a new row of n places is put into the runner's field stack -/
theorem cMk_402 (C : CallFix p m c cc nL s args Ts own) (hin : ∀ w ∈ wsX40, w ∈ Ts) (hw : WC D κ ρ A H0 g σ s H locs) (hA : ∀ q, H0.size ≤ q → A q) (harr : (Cond.arrayClass .int).before args s = true) {index : Nat} (hlink : (Cond.fieldLink own index "PlanCabinet$Runner" "stack" "[I").before args s = true) {n : Int32} (hn : ¬ n < 0) (hb : n.toNatClampNeg ≤ 4100) (hcells : cells + 1 ≤ R.cells) (hslots : slots + 4100 ≤ R.slots) (hdg : decode cc pc = .ok (.newarray .int, 2)) (hdg2 : decode cc (pc + 2) = .ok (.putfield index, 3))
    (kk : ∀ (g' : Gh) (H1 : Heap) (locs1 : List Loc), g'.2.2 = g.2.2 → WC D κ ρ A H0 g' (cN σ 402 n.toNatClampNeg) s H1 locs1 → W p l e R s m args below meth c H1 locs1 (cells + 1) (slots + n.toNatClampNeg) Q (F0 m (pc + 2 + 3) ls rest)) : W p l e R s m args below meth c H locs cells slots Q (F0 m pc ls (.int n :: .ref (ρ 499) :: rest)) := by
  refine va_newa (atype := .int) (a0 := (n.toNatClampNeg, .inl (fun _ => 0))) (ty := .int) C.1 C.2.1 harr rfl hw.1.2.1 hw.1.1 hw.2.1 hw.2.2 hA (fun cA => by rw [vp_cell_i]; rfl) hn rfl (by show n.toNatClampNeg * 4 ≤ _; omega) hcells (by omega) hdg (fun u cA H1 hK1 hP1 hD1 hS1 => ?_)
  refine va_put (D := D) (ci := 4) (ty := .array .int) (v := .ref u) (fs := fieldsRunner ρ g σ) (C := RX4) (T := TX4) (N := 13) C.1 C.2.1 C.2.2.2.2 hin tyX4 tyX4_ok nmX4 C.2.2.2.1 hK1 hP1 hD1 hS1 26 rfl rfl 2 (by decide) hlink (fun _ h => h) rfl (by decide +kernel) rfl rfl (Nat.le_of_ble_eq_true rfl) hdg2 (fun H2 locs2 hP2 hD2 hS2 => ?_)
  refine kk ((u, g.1.2), (cA, g.2.1.2), g.2.2) H2 locs2 rfl ⟨⟨?_, hK1.sub [0, 1, 2, 3, 4, 5, 6, 7, 8, 9, 10, 11, 12, 13, 14, 15, 16, 17, 18, 19, 20, 28, 22, 23, 24, 25, 26, 27] rfl, fun k i => hw.1.2.2.1 k i, hw.1.2.2.2⟩, ?_, hS2⟩
  · exact va_P_swap (w := (cellsC κ ρ g σ).set 26 (ρ 499, .inr (4, (fieldsRunner ρ g σ).set 2 (.ref u)))) 27 hP2
  · exact va_D_swap (w := (cellsC κ ρ g σ).set 26 (ρ 499, .inr (4, (fieldsRunner ρ g σ).set 2 (.ref u)))) 27 hD2
/-- a new row of n places is put into the runner's field joined -/
theorem cMk_403 (C : CallFix p m c cc nL s args Ts own) (hin : ∀ w ∈ wsX40, w ∈ Ts) (hw : WC D κ ρ A H0 g σ s H locs) (hA : ∀ q, H0.size ≤ q → A q) (harr : (Cond.arrayClass .int).before args s = true) {index : Nat} (hlink : (Cond.fieldLink own index "PlanCabinet$Runner" "joined" "[I").before args s = true) {n : Int32} (hn : ¬ n < 0) (hb : n.toNatClampNeg ≤ 4100) (hcells : cells + 1 ≤ R.cells) (hslots : slots + 4100 ≤ R.slots) (hdg : decode cc pc = .ok (.newarray .int, 2)) (hdg2 : decode cc (pc + 2) = .ok (.putfield index, 3))
    (kk : ∀ (g' : Gh) (H1 : Heap) (locs1 : List Loc), g'.2.2 = g.2.2 → WC D κ ρ A H0 g' (cN σ 403 n.toNatClampNeg) s H1 locs1 → W p l e R s m args below meth c H1 locs1 (cells + 1) (slots + n.toNatClampNeg) Q (F0 m (pc + 2 + 3) ls rest)) : W p l e R s m args below meth c H locs cells slots Q (F0 m pc ls (.int n :: .ref (ρ 499) :: rest)) := by
  refine va_newa (atype := .int) (a0 := (n.toNatClampNeg, .inl (fun _ => 0))) (ty := .int) C.1 C.2.1 harr rfl hw.1.2.1 hw.1.1 hw.2.1 hw.2.2 hA (fun cA => by rw [vp_cell_i]; rfl) hn rfl (by show n.toNatClampNeg * 4 ≤ _; omega) hcells (by omega) hdg (fun u cA H1 hK1 hP1 hD1 hS1 => ?_)
  refine va_put (D := D) (ci := 4) (ty := .array .int) (v := .ref u) (fs := fieldsRunner ρ g σ) (C := RX4) (T := TX4) (N := 13) C.1 C.2.1 C.2.2.2.2 hin tyX4 tyX4_ok nmX4 C.2.2.2.1 hK1 hP1 hD1 hS1 26 rfl rfl 3 (by decide) hlink (fun _ h => h) rfl (by decide +kernel) rfl rfl (Nat.le_of_ble_eq_true rfl) hdg2 (fun H2 locs2 hP2 hD2 hS2 => ?_)
  refine kk ((g.1.1, u), (g.2.1.1, cA), g.2.2) H2 locs2 rfl ⟨⟨?_, hK1.sub [0, 1, 2, 3, 4, 5, 6, 7, 8, 9, 10, 11, 12, 13, 14, 15, 16, 17, 18, 19, 20, 21, 28, 23, 24, 25, 26, 27] rfl, fun k i => hw.1.2.2.1 k i, hw.1.2.2.2⟩, ?_, hS2⟩
  · exact va_P_swap (w := (cellsC κ ρ g σ).set 26 (ρ 499, .inr (4, (fieldsRunner ρ g σ).set 3 (.ref u)))) 28 hP2
  · exact va_D_swap (w := (cellsC κ ρ g σ).set 26 (ρ 499, .inr (4, (fieldsRunner ρ g σ).set 3 (.ref u)))) 28 hD2
theorem cCopy (C : CallFix p m c cc nL s args Ts own) (hl : ls.size = nL) (hw : WC D κ ρ A H0 g σ s H locs) {index : Nat} (hlink : (Cond.methodLink own index arraycopyName).before args s = true) (hnat : (Cond.native arraycopyName).before args s = true) (hstat : (Cond.static arraycopyName).before args s = true) (hini : (Cond.initialized "java/lang/System").before args s = true) {sp dp n : Int32} (hb : ¬ (sp < 0 ∨ dp < 0 ∨ n < 0 ∨ σ.2.2.2.2.2 403 < sp.toNatClampNeg + n.toNatClampNeg ∨ σ.2.2.2.2.2 402 < dp.toNatClampNeg + n.toNatClampNeg)) (hframes : 1 ≤ R.frames) (hlocals : (rest.map fun v => v.category).sum + 18 ≤ R.locals) (hdg : decode cc pc = .ok (.invokestatic index, 3))
    (kk : ∀ (H1 : Heap) (locs1 : List Loc), WC D κ ρ A H0 g (cX σ 402 (va_cpy (σ.2.2.1 403) (σ.2.2.1 402) sp.toNatClampNeg dp.toNatClampNeg n.toNatClampNeg)) s H1 locs1 → W p l e R s m args below meth c H1 locs1 cells slots Q (F0 m (pc + 3) ls rest)) : W p l e R s m args below meth c H locs cells slots Q (F0 m pc ls (.int n :: .int dp :: .ref g.1.1 :: .int sp :: .ref g.1.2 :: rest)) :=
  va_copyi (ty := .int) C.1 C.2.1 (C.2.2.1.trans hl.symm) C.2.2.2.1 hlink hnat hstat hini hw.1.2.1 hw.1.1 hw.2.1 hw.2.2 28 27 22 21 rfl rfl rfl rfl rfl (fun h => hb (Or.inl h)) (fun h => hb (Or.inr (Or.inl h))) (fun h => hb (Or.inr (Or.inr (Or.inl h)))) (Nat.not_lt.mp (fun h => hb (Or.inr (Or.inr (Or.inr (Or.inl h)))))) (Nat.not_lt.mp (fun h => hb (Or.inr (Or.inr (Or.inr (Or.inr h)))))) (fun _ _ => rfl) hframes hlocals hdg (fun H1 locs1 hP1 hD1 hS1 => kk H1 locs1 ⟨⟨hP1, hw.1.2⟩, hD1, hS1⟩)
end CB
def cpk {α : Type} (n0 n1 : Nat) (sp dp n : Int32) (x : Option α) : Option α := if sp < 0 ∨ dp < 0 ∨ n < 0 ∨ n0 < sp.toNatClampNeg + n.toNatClampNeg ∨ n1 < dp.toNatClampNeg + n.toNatClampNeg then none else x
theorem cpk_of {α : Type} {n0 n1 : Nat} {sp dp n : Int32} {x : Option α} {y : α} (h : cpk n0 n1 sp dp n x = some y) : ¬ (sp < 0 ∨ dp < 0 ∨ n < 0 ∨ n0 < sp.toNatClampNeg + n.toNatClampNeg ∨ n1 < dp.toNatClampNeg + n.toNatClampNeg) ∧ x = some y := by
  unfold cpk at h
  split at h
  · cases h
  · rename_i hc; exact ⟨hc, h⟩
def mkk {α : Type} (n : Int32) (b : Nat) (x : Option α) : Option α := if n < 0 ∨ b < n.toNatClampNeg then none else x
theorem mkk_of {α : Type} {n : Int32} {b : Nat} {x : Option α} {y : α} (h : mkk n b x = some y) : ¬ n < 0 ∧ n.toNatClampNeg ≤ b ∧ x = some y := by
  unfold mkk at h
  split at h
  · cases h
  · rename_i hc; exact ⟨fun z => hc (Or.inl z), Nat.not_lt.mp (fun z => hc (Or.inr z)), h⟩
theorem sMet {l : Launch} {own : String} {y : MethodName} {ws ws' : List Cond} {cc : ByteArray} {maxL : Nat} {ret : Option FieldType} {rm : Room} {av : List Value} {v : Option Value} (hy : plainName y.cls = true) (hw : ws = .code y cc maxL ret :: ws') (hcls : y.cls = own) (hlen : (lg_sl av).length ≤ maxL)
    (body : ∀ (p : Program) (e : Env) (s : State) (m : MethodId) (below : List Frame) (meth : Method) (c : Code) (ls : Array Slot), CallFix p m c cc maxL s av.toArray ws own → meth.sig.returnType = ret → meth.locks = false → lv_has ls maxL (lv_args 0 av) →
      W p l e rm s m av.toArray below meth c s.heap [] 0 0 (MQ below (PU v) av.toArray s 0 0 (fun _ => False)) (F0 m 0 ls [])) : Met l y ws rm (va_Pc av (fun _ => True)) (PU v) 0 0 (fun _ => False) := by
  refine Met.ofW (cc := cc) (maxL := maxL) (ret := ret) hy hw ?_
  intro p e s m args below meth c s₁ B hml hv
  obtain ⟨rfl, -⟩ := hv
  have hown : s.vm.findClass own = some m.cls := by rw [← hcls]; exact findClass_of_methodNamed B.named
  have hl := lv_entry av (n := maxL) hlen
  rw [lg_entry_eq]
  exact body p e s m below meth c _ ⟨B.exec, B.bytes, hml, hown, atoms_spec (ws := ws) B.pre⟩ B.returns B.notSynchronized hl
theorem cMetR {l : Launch} {D : va_G} {κ : Nat → ClassId} {ρ : Nat → Nat} {g : Gh} {own : String} {y : MethodName} {ws ws' : List Cond} {cc : ByteArray} {maxL : Nat} {ret : Option FieldType} {rm : Room} {av : List Value} {σ : CSt} {Qc : Array Value → State → Outcome → State → Prop} (hy : plainName y.cls = true) (hw : ws = .code y cc maxL ret :: ws') (hcls : y.cls = own) (hlen : (lg_sl av).length ≤ maxL)
    (body : ∀ (p : Program) (e : Env) (s : State) (m : MethodId) (below : List Frame) (meth : Method) (c : Code) (ls : Array Slot), CallFix p m c cc maxL s av.toArray ws own → meth.sig.returnType = ret → meth.locks = false → RC D κ ρ g σ s s.heap → lv_has ls maxL (lv_args 0 av) →
      W p l e rm s m av.toArray below meth c s.heap [] 0 0 (MQ below Qc av.toArray s 0 0 (fun _ => False)) (F0 m 0 ls [])) : Met l y ws rm (va_Pc av (PRC D κ ρ g σ)) Qc 0 0 (fun _ => False) := by
  refine Met.ofW (cc := cc) (maxL := maxL) (ret := ret) hy hw ?_
  intro p e s m args below meth c s₁ B hml hv
  obtain ⟨rfl, hR⟩ := hv
  have hown : s.vm.findClass own = some m.cls := by rw [← hcls]; exact findClass_of_methodNamed B.named
  have hl := lv_entry av (n := maxL) hlen
  rw [lg_entry_eq]
  exact body p e s m below meth c _ ⟨B.exec, B.bytes, hml, hown, atoms_spec (ws := ws) B.pre⟩ B.returns B.notSynchronized hR hl
theorem cMetM {l : Launch} {D : va_G} {κ : Nat → ClassId} {ρ : Nat → Nat} {g0 : Gh} {sz mc ms : Nat} {own : String} {y : MethodName} {ws ws' : List Cond} {cc : ByteArray} {maxL : Nat} {ret : Option FieldType} {rm : Room} {av : List Value} {σ : CSt} {Qc : Nat → Array Value → State → Outcome → State → Prop} (hy : plainName y.cls = true) (hw : ws = .code y cc maxL ret :: ws') (hcls : y.cls = own) (hlen : (lg_sl av).length ≤ maxL)
    (body : ∀ (p : Program) (e : Env) (s : State) (m : MethodId) (below : List Frame) (meth : Method) (c : Code) (ls : Array Slot), CallFix p m c cc maxL s av.toArray ws own → meth.sig.returnType = ret → meth.locks = false → WC D κ ρ (AC ρ g0 s.heap.size) s.heap g0 σ s s.heap [] → lv_has ls maxL (lv_args 0 av) →
      W p l e rm s m av.toArray below meth c s.heap [] 0 0 (MQ below (Qc s.heap.size) av.toArray s mc ms (AC ρ g0 s.heap.size)) (F0 m 0 ls [])) : Met l y ws rm (va_Pc av (PC D κ ρ sz g0 σ)) (Qc sz) mc ms (AC ρ g0 sz) := by
  refine Met.ofW (cc := cc) (maxL := maxL) (ret := ret) hy hw ?_
  intro p e s m args below meth c s₁ B hml hv
  obtain ⟨rfl, hsz, hR, hD⟩ := hv
  subst hsz
  have hown : s.vm.findClass own = some m.cls := by rw [← hcls]; exact findClass_of_methodNamed B.named
  have hl := lv_entry av (n := maxL) hlen
  rw [lg_entry_eq]
  exact body p e s m below meth c _ ⟨B.exec, B.bytes, hml, hown, atoms_spec (ws := ws) B.pre⟩ B.returns B.notSynchronized ⟨hR, AC_self hD, va_S.rf⟩ hl
