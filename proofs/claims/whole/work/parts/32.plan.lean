theorem bt_fit {i : Int32} (h : i = 0 ∨ i = 1) : fits .boolean (.int i) = true := by
  rcases h with rfl | rfl <;> decide +kernel
set_option maxRecDepth 100000 in
set_option maxHeartbeats 4000000 in
theorem cP_init {l : Launch} {D : va_G} {u sz : Nat} {a1 a2 : Int32} {a3 a4 : Int64} {a5 : Int32} (hb5 : a5 = 0 ∨ a5 = 1) : Met l yX1_init wsX1_init ({ frames := 1, cells := 0, slots := 0, locals := 20 } : Room) (va_Pc [.ref u, .int a1, .int a2, .long a3, .long a4, .int a5] (fun U => U.heap.size = sz ∧ va_P D vwCl [(u, raw0)] U.heap ∧ va_K D vwCl [] U ∧ va_D (fun _ => True) [(u, raw0)])) (va_Qv (fun _ : Unit => True) (fun _ t => va_P D vwCl [(u, .inr (1, plF (a1, a2, a3, a4, a5)))] t.heap) (va_A [(u, raw0)] sz)) 0 0 (va_A [(u, raw0)] sz) := by
  refine Met.ofW (cc := cX1_init) (maxL := 8) (ret := none) (by decide) rfl ?_
  intro p e s m args below meth c s₁ B hml hv
  obtain ⟨rfl, hsz, hP, hK, hD0⟩ := hv
  have hx := B.exec
  have hb := B.bytes
  have hr := B.returns
  have hts := atoms_spec (ws := wsX1_init) B.pre
  have hown : s.vm.findClass RX1 = some m.cls := findClass_of_methodNamed B.named
  have hlocks := B.notSynchronized
  have hin : meth.name = "<init>" := (name_of_methodNamed B.named B.method).1
  have hinw : ∀ w ∈ wsX10, w ∈ wsX1_init := by decide +kernel
  subst hsz
  have hD := hD0.self (sz := s.heap.size)
  generalize hAe : va_A [(u, raw0)] s.heap.size = A at hD ⊢
  have hA : ∀ q : Nat, s.heap.size ≤ q → A q := fun q h => by rw [← hAe]; exact Or.inr h
  have hS : va_S A s.heap s.heap [] := va_S.rf
  have hP : va_P D vwCl [(u, .inr (1, [.int 0, .int 0, .long 0, .long 0, .int 0]))] s.heap := hP
  have hD : va_D A [(u, .inr (1, [.int 0, .int 0, .long 0, .long 0, .int 0]))] := hD
  have hl := lv_entry ([.ref u, .int a1, .int a2, .long a3, .long a4, .int a5]) (n := 8) (Nat.le_of_ble_eq_true rfl)
  rw [lg_entry_eq]
  generalize (lg_sl ([.ref u, .int a1, .int a2, .long a3, .long a4, .int a5]) ++ List.replicate (8 - (lg_sl ([.ref u, .int a1, .int a2, .long a3, .long a4, .int a5])).length) Slot.unset).toArray = ls at hl ⊢
  have hl : lv_has ls 8 [(0, .ref u), (1, .int a1), (2, .int a2), (3, .long a3), (5, .long a4), (7, .int a5)] := hl
  refine lv_aload_n hx hb dX1_init_0 rfl (lv_at hl 0 rfl) ?_
  refine W.objInit hx hb hown (hts (.methodLink RX1 3 objectInit) (by decide +kernel)) (hts (.instanceMethod objectInit) (by decide +kernel)) (hts (.code objectInit ⟨#[0xb1]⟩ 1 none) (List.mem_cons_of_mem _ (List.mem_append_left _ (List.mem_of_getElem? (i := 2) rfl)))) rfl (by rw [hml]; exact hl.1) rfl dX1_init_1 (Nat.le_of_ble_eq_true rfl) (Nat.le_of_ble_eq_true rfl) ?_
  refine W.eq (g2 := F0 m 4 ls []) rfl ?_
  refine lv_aload_n hx hb dX1_init_4 rfl (lv_at hl 0 rfl) ?_
  refine lv_iload_n hx hb dX1_init_5 rfl (lv_at hl 1 rfl) ?_
  refine va_putF (D := D) (ci := 1) (v := .int a1) (ty := .int) (C := RX1) (T := TX1) (N := 5) hx hb hts hinw tyX1 tyX1_ok nmX1 hown hK hP hD hS 0 rfl rfl 0 (by decide) (hts (.fieldLink RX1 9 "PlanCabinet$Plan" "set" "I") (by decide +kernel)) (fun _ h9 => h9) rfl hin rfl (by decide +kernel) rfl rfl (Nat.le_of_ble_eq_true rfl) dX1_init_6 (fun H locs hP hD hS => ?_)
  have hP : va_P D vwCl [(u, .inr (1, [.int a1, .int 0, .long 0, .long 0, .int 0]))] H := hP
  have hD : va_D A [(u, .inr (1, [.int a1, .int 0, .long 0, .long 0, .int 0]))] := hD
  refine lv_aload_n hx hb dX1_init_9 rfl (lv_at hl 0 rfl) ?_
  refine lv_iload_n hx hb dX1_init_10 rfl (lv_at hl 2 rfl) ?_
  refine va_putF (D := D) (ci := 1) (v := .int a2) (ty := .int) (C := RX1) (T := TX1) (N := 5) hx hb hts hinw tyX1 tyX1_ok nmX1 hown hK hP hD hS 0 rfl rfl 1 (by decide) (hts (.fieldLink RX1 15 "PlanCabinet$Plan" "packedCode" "I") (by decide +kernel)) (fun _ h9 => h9) rfl hin rfl (by decide +kernel) rfl rfl (Nat.le_of_ble_eq_true rfl) dX1_init_11 (fun H locs hP hD hS => ?_)
  have hP : va_P D vwCl [(u, .inr (1, [.int a1, .int a2, .long 0, .long 0, .int 0]))] H := hP
  have hD : va_D A [(u, .inr (1, [.int a1, .int a2, .long 0, .long 0, .int 0]))] := hD
  refine lv_aload_n hx hb dX1_init_14 rfl (lv_at hl 0 rfl) ?_
  refine lv_lload_n hx hb dX1_init_15 rfl (lv_at hl 3 rfl) ?_
  refine va_putF (D := D) (ci := 1) (v := .long a3) (ty := .long) (C := RX1) (T := TX1) (N := 5) hx hb hts hinw tyX1 tyX1_ok nmX1 hown hK hP hD hS 0 rfl rfl 2 (by decide) (hts (.fieldLink RX1 18 "PlanCabinet$Plan" "a" "J") (by decide +kernel)) (fun _ h9 => h9) rfl hin rfl (by decide +kernel) rfl rfl (Nat.le_of_ble_eq_true rfl) dX1_init_16 (fun H locs hP hD hS => ?_)
  have hP : va_P D vwCl [(u, .inr (1, [.int a1, .int a2, .long a3, .long 0, .int 0]))] H := hP
  have hD : va_D A [(u, .inr (1, [.int a1, .int a2, .long a3, .long 0, .int 0]))] := hD
  refine lv_aload_n hx hb dX1_init_19 rfl (lv_at hl 0 rfl) ?_
  refine lv_lload hx hb dX1_init_20 (lv_at hl 4 rfl) ?_
  refine va_putF (D := D) (ci := 1) (v := .long a4) (ty := .long) (C := RX1) (T := TX1) (N := 5) hx hb hts hinw tyX1 tyX1_ok nmX1 hown hK hP hD hS 0 rfl rfl 3 (by decide) (hts (.fieldLink RX1 22 "PlanCabinet$Plan" "b" "J") (by decide +kernel)) (fun _ h9 => h9) rfl hin rfl (by decide +kernel) rfl rfl (Nat.le_of_ble_eq_true rfl) dX1_init_22 (fun H locs hP hD hS => ?_)
  have hP : va_P D vwCl [(u, .inr (1, [.int a1, .int a2, .long a3, .long a4, .int 0]))] H := hP
  have hD : va_D A [(u, .inr (1, [.int a1, .int a2, .long a3, .long a4, .int 0]))] := hD
  refine lv_aload_n hx hb dX1_init_25 rfl (lv_at hl 0 rfl) ?_
  refine lv_iload hx hb dX1_init_26 (lv_at hl 5 rfl) ?_
  refine va_putF (D := D) (ci := 1) (v := .int a5) (ty := .boolean) (C := RX1) (T := TX1) (N := 5) hx hb hts hinw tyX1 tyX1_ok nmX1 hown hK hP hD hS 0 rfl rfl 4 (by decide) (hts (.fieldLink RX1 25 "PlanCabinet$Plan" "inOrder" "Z") (by decide +kernel)) (fun _ h9 => h9) rfl hin rfl (by decide +kernel) (bt_nar hb5) (bt_fit hb5) (Nat.le_of_ble_eq_true rfl) dX1_init_28 (fun H locs hP hD hS => ?_)
  have hP : va_P D vwCl [(u, .inr (1, [.int a1, .int a2, .long a3, .long a4, .int a5]))] H := hP
  have hD : va_D A [(u, .inr (1, [.int a1, .int a2, .long a3, .long a4, .int a5]))] := hD
  exact W.vret hx hb hr (fun t ht hW => ⟨⟨(), rfl, trivial, by show va_P D vwCl _ t.heap; rw [ht]; exact hP⟩, hS.F ht⟩) hS.2.2 dX1_init_31
theorem preN {s : State} {H H0 : Heap} {D : va_G} {κ : Nat → ClassId} {ρ : Nat → Nat} {g : Gh} {σ : CSt} {A : Nat → Prop} {locs : List Loc} {u : Nat} {As : List Value} (hP : va_P D vwCl (cellsC κ ρ g σ ++ [(u, raw0)]) H) (hw : WC D κ ρ A H0 g σ s H locs) : PreS s H (va_Pc (.ref u :: As) (fun U => U.heap.size = H.size ∧ va_P D vwCl [(u, raw0)] U.heap ∧ va_K D vwCl [] U ∧ va_D (fun _ => True) [(u, raw0)])) (.ref u :: As) := by
  refine ⟨fun a U f mk q => ⟨q.1, q.2.1, q.2.2.1, va_K.moved (u := U) (U := U.calling f mk a) (Vm.Alike.refl U.vm) q.2.2.2.1, q.2.2.2.2⟩, fun U hU hW => ⟨rfl, by rw [hU], fun k q hk => ?_, (va_K.moved hW.alike hw.1.2.1).sub [] rfl, ⟨fun i j x y hi hj _ => ?_, fun _ _ _ => trivial⟩⟩⟩
  · rw [hU]
    cases k with
    | zero =>
      cases hk
      exact hP _ _ (by rw [List.getElem?_append_right (Nat.le_refl _), Nat.sub_self]; rfl)
    | succ k => cases hk
  · have h1 := (List.getElem?_eq_some_iff.mp hi).1
    have h2 := (List.getElem?_eq_some_iff.mp hj).1
    simp at h1 h2
    omega
