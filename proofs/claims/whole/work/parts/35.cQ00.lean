/-! the class, Q: isTable, isField, isPairing, allTables, rowsOf, allRows, field, addTable, addRow, addPairing, joinedToFirst, isWhole, isInside, quartersOf, isBetween, leastBetween, tableOn, columnOn, isInOrder, orderFactor, rowIn, isHeld, asPart, matches -/
def fQ_isTable (N : Nat) (σ : CSt) (x1 : Int32) : Option (Int32) := (if x1 < 0 then some (0 : Int32) else (if (σ.1 300) ≤ x1 then some (0 : Int32) else (if (4 : Int32) ≤ x1 then some (0 : Int32) else some (1 : Int32))))
set_option maxRecDepth 100000 in
set_option maxHeartbeats 4000000 in
theorem cQ_isTable {l : Launch} {D : va_G} {κ : Nat → ClassId} {ρ : Nat → Nat} {g : Gh} {N : Nat} {σ : CSt} {x1 : Int32} {r : Int32} (h : fQ_isTable N σ x1 = some r) : Met l yX3_isTable wsX3_isTable ({ frames := 0, cells := 0, slots := 0, locals := 0 } : Room) (va_Pc [.ref (ρ 399), .int x1] (PRC D κ ρ g σ)) (PU (some (.int r))) 0 0 (fun _ => False) := by
  refine cMetR (ret := (some .boolean)) (by decide) rfl rfl (Nat.le_of_ble_eq_true rfl) ?_
  intro p e s m below meth c ls C hr hlk hw hl
  have hl : lv_has ls 2 [(0, .ref (ρ 399)), (1, .int x1)] := hl
  unfold fQ_isTable at h
  have hx := C.1
  have hb := C.2.1
  have hts := C.2.2.2.2
  have hown := C.2.2.2.1
  have k_43 := hts (.fieldLink RX3 43 "PlanCabinet$Question" "tableCount" "I") (by decide +kernel)
  have in_3 : ∀ w ∈ wsX30, w ∈ wsX3_isTable := by decide +kernel
  refine lv_iload_n hx hb dX3_isTable_0 rfl (lv_at hl 1 rfl) ?_
  refine lv_if_lt (tgt := 21) hx hb dX3_isTable_1 (by decide) (fun c_1 => ?_) (fun c_1 => ?_)
  · have h := zz_pos c_1 h
    refine lv_iconst (v := (0 : Int32)) hx hb dX3_isTable_21 (by decide) ?_
    exact W.zret (ty := .boolean) hx hb hr (by decide +kernel) (fun t ht hW => ⟨by rw [some_of h], ht⟩) (fun _ h => by cases h) dX3_isTable_22
  · have h := zz_neg c_1 h
    refine lv_iload_n hx hb dX3_isTable_4 rfl (lv_at hl 1 rfl) ?_
    refine lv_aload_n hx hb dX3_isTable_5 rfl (lv_at hl 0 rfl) ?_
    refine cG_300 C in_3 hw k_43 dX3_isTable_6 ?_
    refine lv_icmp_ge (tgt := 21) hx hb dX3_isTable_9 (by decide) (fun c_9 => ?_) (fun c_9 => ?_)
    · have h := zz_pos c_9 h
      refine lv_iconst (v := (0 : Int32)) hx hb dX3_isTable_21 (by decide) ?_
      exact W.zret (ty := .boolean) hx hb hr (by decide +kernel) (fun t ht hW => ⟨by rw [some_of h], ht⟩) (fun _ h => by cases h) dX3_isTable_22
    · have h := zz_neg c_9 h
      refine lv_iload_n hx hb dX3_isTable_12 rfl (lv_at hl 1 rfl) ?_
      refine lv_iconst (v := (4 : Int32)) hx hb dX3_isTable_13 (by decide) ?_
      refine lv_icmp_ge (tgt := 21) hx hb dX3_isTable_14 (by decide) (fun c_14 => ?_) (fun c_14 => ?_)
      · have h := zz_pos c_14 h
        refine lv_iconst (v := (0 : Int32)) hx hb dX3_isTable_21 (by decide) ?_
        exact W.zret (ty := .boolean) hx hb hr (by decide +kernel) (fun t ht hW => ⟨by rw [some_of h], ht⟩) (fun _ h => by cases h) dX3_isTable_22
      · have h := zz_neg c_14 h
        refine lv_iconst (v := (1 : Int32)) hx hb dX3_isTable_17 (by decide) ?_
        refine lv_goto (tgt := 22) hx hb dX3_isTable_18 (by decide) ?_
        exact W.zret (ty := .boolean) hx hb hr (by decide +kernel) (fun t ht hW => ⟨by rw [some_of h], ht⟩) (fun _ h => by cases h) dX3_isTable_22
def fQ_isField (N : Nat) (σ : CSt) (x1 : Int32) (x2 : Int32) : Option (Int32) := (fQ_isTable N σ x1).bind fun r_2 => (if r_2 = 0 then some (0 : Int32) else (if x2 < 0 then some (0 : Int32) else (if (3 : Int32) ≤ x2 then some (0 : Int32) else some (1 : Int32))))
set_option maxRecDepth 100000 in
set_option maxHeartbeats 4000000 in
theorem cQ_isField {l : Launch} {D : va_G} {κ : Nat → ClassId} {ρ : Nat → Nat} {g : Gh} {N : Nat} {σ : CSt} {x1 : Int32} {x2 : Int32} {r : Int32} (h : fQ_isField N σ x1 x2 = some r) : Met l yX3_isField wsX3_isField ({ frames := 1, cells := 0, slots := 0, locals := 21 } : Room) (va_Pc [.ref (ρ 399), .int x1, .int x2] (PRC D κ ρ g σ)) (PU (some (.int r))) 0 0 (fun _ => False) := by
  refine cMetR (ret := (some .boolean)) (by decide) rfl rfl (Nat.le_of_ble_eq_true rfl) ?_
  intro p e s m below meth c ls C hr hlk hw hl
  have hl : lv_has ls 3 [(0, .ref (ρ 399)), (1, .int x1), (2, .int x2)] := hl
  unfold fQ_isField at h
  have hx := C.1
  have hb := C.2.1
  have hts := C.2.2.2.2
  have hown := C.2.2.2.1
  refine lv_aload_n hx hb dX3_isField_0 rfl (lv_at hl 0 rfl) ?_
  refine lv_iload_n hx hb dX3_isField_1 rfl (lv_at hl 1 rfl) ?_
  obtain ⟨r_2, e_2, h⟩ := bnd_of h
  refine callP (W.runV (As := [.int x1]) C (cQ_isTable e_2) (cwV 1 hts gX3_isField_X3_isTable rfl rfl rfl (by decide +kernel) ⟨by decide, by decide⟩) (preR (recv_399 hw) hw) rfl rfl hl.1 rfl (lv_room (Nat.le_of_ble_eq_true rfl)) dX3_isField_2 ⟨Nat.zero_le _, Nat.zero_le _⟩) ?_
  refine lv_if_eq (tgt := 21) hx hb dX3_isField_5 (by decide) (fun c_5 => ?_) (fun c_5 => ?_)
  · have h := zz_pos c_5 h
    refine lv_iconst (v := (0 : Int32)) hx hb dX3_isField_21 (by decide) ?_
    exact W.zret (ty := .boolean) hx hb hr (by decide +kernel) (fun t ht hW => ⟨by rw [some_of h], ht⟩) (fun _ h => by cases h) dX3_isField_22
  · have h := zz_neg c_5 h
    refine lv_iload_n hx hb dX3_isField_8 rfl (lv_at hl 2 rfl) ?_
    refine lv_if_lt (tgt := 21) hx hb dX3_isField_9 (by decide) (fun c_9 => ?_) (fun c_9 => ?_)
    · have h := zz_pos c_9 h
      refine lv_iconst (v := (0 : Int32)) hx hb dX3_isField_21 (by decide) ?_
      exact W.zret (ty := .boolean) hx hb hr (by decide +kernel) (fun t ht hW => ⟨by rw [some_of h], ht⟩) (fun _ h => by cases h) dX3_isField_22
    · have h := zz_neg c_9 h
      refine lv_iload_n hx hb dX3_isField_12 rfl (lv_at hl 2 rfl) ?_
      refine lv_iconst (v := (3 : Int32)) hx hb dX3_isField_13 (by decide) ?_
      refine lv_icmp_ge (tgt := 21) hx hb dX3_isField_14 (by decide) (fun c_14 => ?_) (fun c_14 => ?_)
      · have h := zz_pos c_14 h
        refine lv_iconst (v := (0 : Int32)) hx hb dX3_isField_21 (by decide) ?_
        exact W.zret (ty := .boolean) hx hb hr (by decide +kernel) (fun t ht hW => ⟨by rw [some_of h], ht⟩) (fun _ h => by cases h) dX3_isField_22
      · have h := zz_neg c_14 h
        refine lv_iconst (v := (1 : Int32)) hx hb dX3_isField_17 (by decide) ?_
        refine lv_goto (tgt := 22) hx hb dX3_isField_18 (by decide) ?_
        exact W.zret (ty := .boolean) hx hb hr (by decide +kernel) (fun t ht hW => ⟨by rw [some_of h], ht⟩) (fun _ h => by cases h) dX3_isField_22
def fQ_isPairing (N : Nat) (σ : CSt) (x1 : Int32) : Option (Int32) := (if x1 < 0 then some (0 : Int32) else (if (σ.1 301) ≤ x1 then some (0 : Int32) else (if (4 : Int32) ≤ x1 then some (0 : Int32) else some (1 : Int32))))
set_option maxRecDepth 100000 in
set_option maxHeartbeats 4000000 in
theorem cQ_isPairing {l : Launch} {D : va_G} {κ : Nat → ClassId} {ρ : Nat → Nat} {g : Gh} {N : Nat} {σ : CSt} {x1 : Int32} {r : Int32} (h : fQ_isPairing N σ x1 = some r) : Met l yX3_isPairing wsX3_isPairing ({ frames := 0, cells := 0, slots := 0, locals := 0 } : Room) (va_Pc [.ref (ρ 399), .int x1] (PRC D κ ρ g σ)) (PU (some (.int r))) 0 0 (fun _ => False) := by
  refine cMetR (ret := (some .boolean)) (by decide) rfl rfl (Nat.le_of_ble_eq_true rfl) ?_
  intro p e s m below meth c ls C hr hlk hw hl
  have hl : lv_has ls 2 [(0, .ref (ρ 399)), (1, .int x1)] := hl
  unfold fQ_isPairing at h
  have hx := C.1
  have hb := C.2.1
  have hts := C.2.2.2.2
  have hown := C.2.2.2.1
  have k_50 := hts (.fieldLink RX3 50 "PlanCabinet$Question" "pairingCount" "I") (by decide +kernel)
  have in_3 : ∀ w ∈ wsX30, w ∈ wsX3_isPairing := by decide +kernel
  refine lv_iload_n hx hb dX3_isPairing_0 rfl (lv_at hl 1 rfl) ?_
  refine lv_if_lt (tgt := 21) hx hb dX3_isPairing_1 (by decide) (fun c_1 => ?_) (fun c_1 => ?_)
  · have h := zz_pos c_1 h
    refine lv_iconst (v := (0 : Int32)) hx hb dX3_isPairing_21 (by decide) ?_
    exact W.zret (ty := .boolean) hx hb hr (by decide +kernel) (fun t ht hW => ⟨by rw [some_of h], ht⟩) (fun _ h => by cases h) dX3_isPairing_22
  · have h := zz_neg c_1 h
    refine lv_iload_n hx hb dX3_isPairing_4 rfl (lv_at hl 1 rfl) ?_
    refine lv_aload_n hx hb dX3_isPairing_5 rfl (lv_at hl 0 rfl) ?_
    refine cG_301 C in_3 hw k_50 dX3_isPairing_6 ?_
    refine lv_icmp_ge (tgt := 21) hx hb dX3_isPairing_9 (by decide) (fun c_9 => ?_) (fun c_9 => ?_)
    · have h := zz_pos c_9 h
      refine lv_iconst (v := (0 : Int32)) hx hb dX3_isPairing_21 (by decide) ?_
      exact W.zret (ty := .boolean) hx hb hr (by decide +kernel) (fun t ht hW => ⟨by rw [some_of h], ht⟩) (fun _ h => by cases h) dX3_isPairing_22
    · have h := zz_neg c_9 h
      refine lv_iload_n hx hb dX3_isPairing_12 rfl (lv_at hl 1 rfl) ?_
      refine lv_iconst (v := (4 : Int32)) hx hb dX3_isPairing_13 (by decide) ?_
      refine lv_icmp_ge (tgt := 21) hx hb dX3_isPairing_14 (by decide) (fun c_14 => ?_) (fun c_14 => ?_)
      · have h := zz_pos c_14 h
        refine lv_iconst (v := (0 : Int32)) hx hb dX3_isPairing_21 (by decide) ?_
        exact W.zret (ty := .boolean) hx hb hr (by decide +kernel) (fun t ht hW => ⟨by rw [some_of h], ht⟩) (fun _ h => by cases h) dX3_isPairing_22
      · have h := zz_neg c_14 h
        refine lv_iconst (v := (1 : Int32)) hx hb dX3_isPairing_17 (by decide) ?_
        refine lv_goto (tgt := 22) hx hb dX3_isPairing_18 (by decide) ?_
        exact W.zret (ty := .boolean) hx hb hr (by decide +kernel) (fun t ht hW => ⟨by rw [some_of h], ht⟩) (fun _ h => by cases h) dX3_isPairing_22
def fQ_allTables (N : Nat) (σ : CSt) : Option (Int32) := some (((1 : Int32) <<< ((σ.1 300) &&& 31)) - (1 : Int32))
set_option maxRecDepth 100000 in
set_option maxHeartbeats 4000000 in
theorem cQ_allTables {l : Launch} {D : va_G} {κ : Nat → ClassId} {ρ : Nat → Nat} {g : Gh} {N : Nat} {σ : CSt} {r : Int32} (h : fQ_allTables N σ = some r) : Met l yX3_allTables wsX3_allTables ({ frames := 0, cells := 0, slots := 0, locals := 0 } : Room) (va_Pc [.ref (ρ 399)] (PRC D κ ρ g σ)) (PU (some (.int r))) 0 0 (fun _ => False) := by
  refine cMetR (ret := (some .int)) (by decide) rfl rfl (Nat.le_of_ble_eq_true rfl) ?_
  intro p e s m below meth c ls C hr hlk hw hl
  have hl : lv_has ls 1 [(0, .ref (ρ 399))] := hl
  unfold fQ_allTables at h
  have hx := C.1
  have hb := C.2.1
  have hts := C.2.2.2.2
  have hown := C.2.2.2.1
  have k_43 := hts (.fieldLink RX3 43 "PlanCabinet$Question" "tableCount" "I") (by decide +kernel)
  have in_3 : ∀ w ∈ wsX30, w ∈ wsX3_allTables := by decide +kernel
  refine lv_iconst (v := (1 : Int32)) hx hb dX3_allTables_0 (by decide) ?_
  refine lv_aload_n hx hb dX3_allTables_1 rfl (lv_at hl 0 rfl) ?_
  refine cG_300 C in_3 hw k_43 dX3_allTables_2 ?_
  refine lv_ishl hx hb dX3_allTables_5 ?_
  refine lv_iconst (v := (1 : Int32)) hx hb dX3_allTables_6 (by decide) ?_
  refine lv_isub hx hb dX3_allTables_7 ?_
  exact W.iret hx hb hr (fun t ht hW => ⟨by rw [some_of h], ht⟩) (fun _ h => by cases h) dX3_allTables_8
def fQ_rowsOf (N : Nat) (σ : CSt) (x1 : Int32) : Option (Int32) := (fQ_isTable N σ x1).bind fun r_2 => (if r_2 = 0 then some (0 : Int32) else chk x1 4 (some (σ.2.2.1 305 x1.toNatClampNeg)))
set_option maxRecDepth 100000 in
set_option maxHeartbeats 4000000 in
theorem cQ_rowsOf {l : Launch} {D : va_G} {κ : Nat → ClassId} {ρ : Nat → Nat} {g : Gh} {N : Nat} {σ : CSt} {x1 : Int32} {r : Int32} (h : fQ_rowsOf N σ x1 = some r) : Met l yX3_rowsOf wsX3_rowsOf ({ frames := 1, cells := 0, slots := 0, locals := 21 } : Room) (va_Pc [.ref (ρ 399), .int x1] (PRC D κ ρ g σ)) (PU (some (.int r))) 0 0 (fun _ => False) := by
  refine cMetR (ret := (some .int)) (by decide) rfl rfl (Nat.le_of_ble_eq_true rfl) ?_
  intro p e s m below meth c ls C hr hlk hw hl
  have hl : lv_has ls 2 [(0, .ref (ρ 399)), (1, .int x1)] := hl
  unfold fQ_rowsOf at h
  have hx := C.1
  have hb := C.2.1
  have hts := C.2.2.2.2
  have hown := C.2.2.2.1
  have k_18 := hts (.fieldLink RX3 18 "PlanCabinet$Question" "rowCounts" "[I") (by decide +kernel)
  have in_3 : ∀ w ∈ wsX30, w ∈ wsX3_rowsOf := by decide +kernel
  refine lv_aload_n hx hb dX3_rowsOf_0 rfl (lv_at hl 0 rfl) ?_
  refine lv_iload_n hx hb dX3_rowsOf_1 rfl (lv_at hl 1 rfl) ?_
  obtain ⟨r_2, e_2, h⟩ := bnd_of h
  refine callP (W.runV (As := [.int x1]) C (cQ_isTable e_2) (cwV 1 hts gX3_rowsOf_X3_isTable rfl rfl rfl (by decide +kernel) ⟨by decide, by decide⟩) (preR (recv_399 hw) hw) rfl rfl hl.1 rfl (lv_room (Nat.le_of_ble_eq_true rfl)) dX3_rowsOf_2 ⟨Nat.zero_le _, Nat.zero_le _⟩) ?_
  refine lv_if_eq (tgt := 17) hx hb dX3_rowsOf_5 (by decide) (fun c_5 => ?_) (fun c_5 => ?_)
  · have h := zz_pos c_5 h
    refine lv_iconst (v := (0 : Int32)) hx hb dX3_rowsOf_17 (by decide) ?_
    exact W.iret hx hb hr (fun t ht hW => ⟨by rw [some_of h], ht⟩) (fun _ h => by cases h) dX3_rowsOf_18
  · have h := zz_neg c_5 h
    refine lv_aload_n hx hb dX3_rowsOf_8 rfl (lv_at hl 0 rfl) ?_
    refine cG_305 C in_3 hw k_18 dX3_rowsOf_9 ?_
    refine lv_iload_n hx hb dX3_rowsOf_12 rfl (lv_at hl 1 rfl) ?_
    obtain ⟨b_13, h⟩ := chk_of h
    refine cL_305 C hw b_13 dX3_rowsOf_13 ?_
    refine lv_goto (tgt := 18) hx hb dX3_rowsOf_14 (by decide) ?_
    exact W.iret hx hb hr (fun t ht hW => ⟨by rw [some_of h], ht⟩) (fun _ h => by cases h) dX3_rowsOf_18
def fQ_allRows_L4 (N : Nat) (σ : CSt) : Nat → Int32 → Int32 → Option (Int32)
  | 0, _, _ => none
  | n + 1, x1, x2 => (if (4 : Int32) ≤ x2 then some x1 else chk x2 4 (fQ_allRows_L4 N σ n (x1 + (σ.2.2.1 305 x2.toNatClampNeg)) (x2 + 1)))
def fQ_allRows (N : Nat) (σ : CSt) : Option (Int32) := fQ_allRows_L4 N σ N (0 : Int32) (0 : Int32)
set_option maxRecDepth 100000 in
set_option maxHeartbeats 4000000 in
theorem wQ_allRows_L4 {p : Program} {l : Launch} {e : Env} {s : State} {m : MethodId} {args : Array Value} {below : List Frame} {meth : Method} {c : Code} {D : va_G} {κ : Nat → ClassId} {ρ : Nat → Nat} {g : Gh} {σ : CSt} (C : CallFix p m c cX3_allRows 3 s args wsX3_allRows RX3) (hr : meth.sig.returnType = (some .int)) (hlk : meth.locks = false) (hw : RC D κ ρ g σ s s.heap) {N : Nat} {r : Int32} : ∀ (n : Nat) (x1 : Int32) (x2 : Int32) (ls : Array Slot), fQ_allRows_L4 N σ n x1 x2 = some r → lv_has ls 3 [(0, .ref (ρ 399)), (1, .int x1), (2, .int x2)] → W p l e ({ frames := 0, cells := 0, slots := 0, locals := 0 } : Room) s m args below meth c s.heap [] 0 0 (MQ below (PU (some (.int r))) args s 0 0 (fun _ => False)) (F0 m 4 ls []) := by
  have hx := C.1
  have hb := C.2.1
  have hts := C.2.2.2.2
  have hown := C.2.2.2.1
  have k_18 := hts (.fieldLink RX3 18 "PlanCabinet$Question" "rowCounts" "[I") (by decide +kernel)
  have in_3 : ∀ w ∈ wsX30, w ∈ wsX3_allRows := by decide +kernel
  intro n
  induction n with
  | zero =>
    intro x1 x2 ls h hl
    rw [fQ_allRows_L4] at h
    cases h
  | succ n ih =>
    intro x1 x2 ls h hl
    rw [fQ_allRows_L4] at h
    refine lv_iload_n hx hb dX3_allRows_4 rfl (lv_at hl 2 rfl) ?_
    refine lv_iconst (v := (4 : Int32)) hx hb dX3_allRows_5 (by decide) ?_
    refine lv_icmp_ge (tgt := 24) hx hb dX3_allRows_6 (by decide) (fun c_6 => ?_) (fun c_6 => ?_)
    · have h := zz_pos c_6 h
      refine lv_iload_n hx hb dX3_allRows_24 rfl (lv_at hl 1 rfl) ?_
      exact W.iret hx hb hr (fun t ht hW => ⟨by rw [some_of h], ht⟩) (fun _ h => by cases h) dX3_allRows_25
    · have h := zz_neg c_6 h
      refine lv_iload_n hx hb dX3_allRows_9 rfl (lv_at hl 1 rfl) ?_
      refine lv_aload_n hx hb dX3_allRows_10 rfl (lv_at hl 0 rfl) ?_
      refine cG_305 C in_3 hw k_18 dX3_allRows_11 ?_
      refine lv_iload_n hx hb dX3_allRows_14 rfl (lv_at hl 2 rfl) ?_
      obtain ⟨b_15, h⟩ := chk_of h
      refine cL_305 C hw b_15 dX3_allRows_15 ?_
      refine lv_iadd hx hb dX3_allRows_16 ?_
      refine lv_istore_n (lv' := [(1, .int (x1 + (σ.2.2.1 305 x2.toNatClampNeg))), (0, .ref (ρ 399)), (2, .int x2)]) hx hb dX3_allRows_17 rfl hl (by decide) rfl (fun ls hl => ?_)
      refine lv_iinc (v := (x2 + 1)) (lv' := [(2, .int (x2 + 1)), (1, .int (x1 + (σ.2.2.1 305 x2.toNatClampNeg))), (0, .ref (ρ 399))]) hx hb dX3_allRows_18 hl (k := 2) rfl rfl (by decide) rfl (fun ls hl => ?_)
      refine lv_goto (tgt := 4) hx hb dX3_allRows_21 (by decide) ?_
      exact ih _ _ _ h (lv_sub hl [2, 1, 0] rfl)
set_option maxRecDepth 100000 in
set_option maxHeartbeats 4000000 in
theorem cQ_allRows {l : Launch} {D : va_G} {κ : Nat → ClassId} {ρ : Nat → Nat} {g : Gh} {N : Nat} {σ : CSt} {r : Int32} (h : fQ_allRows N σ = some r) : Met l yX3_allRows wsX3_allRows ({ frames := 0, cells := 0, slots := 0, locals := 0 } : Room) (va_Pc [.ref (ρ 399)] (PRC D κ ρ g σ)) (PU (some (.int r))) 0 0 (fun _ => False) := by
  refine cMetR (ret := (some .int)) (by decide) rfl rfl (Nat.le_of_ble_eq_true rfl) ?_
  intro p e s m below meth c ls C hr hlk hw hl
  have hl : lv_has ls 3 [(0, .ref (ρ 399))] := hl
  unfold fQ_allRows at h
  have hx := C.1
  have hb := C.2.1
  have hts := C.2.2.2.2
  have hown := C.2.2.2.1
  refine lv_iconst (v := (0 : Int32)) hx hb dX3_allRows_0 (by decide) ?_
  refine lv_istore_n (lv' := [(1, .int (0 : Int32)), (0, .ref (ρ 399))]) hx hb dX3_allRows_1 rfl hl (by decide) rfl (fun ls hl => ?_)
  refine lv_iconst (v := (0 : Int32)) hx hb dX3_allRows_2 (by decide) ?_
  refine lv_istore_n (lv' := [(2, .int (0 : Int32)), (1, .int (0 : Int32)), (0, .ref (ρ 399))]) hx hb dX3_allRows_3 rfl hl (by decide) rfl (fun ls hl => ?_)
  exact wQ_allRows_L4 C hr hlk hw _ _ _ _ h (lv_sub hl [2, 1, 0] rfl)
def fQ_field (N : Nat) (σ : CSt) (x1 : Int32) (x2 : Int32) (x3 : Int32) : Option (Int32) := (if x1 < 0 then some (0 : Int32) else (if (4 : Int32) ≤ x1 then some (0 : Int32) else (if x2 < 0 then some (0 : Int32) else (if (8 : Int32) ≤ x2 then some (0 : Int32) else (if x3 < 0 then some (0 : Int32) else (if x3 < (3 : Int32) then chk ((((x1 * (8 : Int32)) + x2) * (3 : Int32)) + x3) 96 (some (σ.2.2.1 306 ((((x1 * (8 : Int32)) + x2) * (3 : Int32)) + x3).toNatClampNeg)) else some (0 : Int32)))))))
set_option maxRecDepth 100000 in
set_option maxHeartbeats 4000000 in
theorem cQ_field {l : Launch} {D : va_G} {κ : Nat → ClassId} {ρ : Nat → Nat} {g : Gh} {N : Nat} {σ : CSt} {x1 : Int32} {x2 : Int32} {x3 : Int32} {r : Int32} (h : fQ_field N σ x1 x2 x3 = some r) : Met l yX3_field wsX3_field ({ frames := 0, cells := 0, slots := 0, locals := 0 } : Room) (va_Pc [.ref (ρ 399), .int x1, .int x2, .int x3] (PRC D κ ρ g σ)) (PU (some (.int r))) 0 0 (fun _ => False) := by
  refine cMetR (ret := (some .int)) (by decide) rfl rfl (Nat.le_of_ble_eq_true rfl) ?_
  intro p e s m below meth c ls C hr hlk hw hl
  have hl : lv_has ls 4 [(0, .ref (ρ 399)), (1, .int x1), (2, .int x2), (3, .int x3)] := hl
  unfold fQ_field at h
  have hx := C.1
  have hb := C.2.1
  have hts := C.2.2.2.2
  have hown := C.2.2.2.1
  have k_22 := hts (.fieldLink RX3 22 "PlanCabinet$Question" "fields" "[I") (by decide +kernel)
  have in_3 : ∀ w ∈ wsX30, w ∈ wsX3_field := by decide +kernel
  refine lv_iload_n hx hb dX3_field_0 rfl (lv_at hl 1 rfl) ?_
  refine lv_if_lt (tgt := 28) hx hb dX3_field_1 (by decide) (fun c_1 => ?_) (fun c_1 => ?_)
  · have h := zz_pos c_1 h
    refine lv_iconst (v := (0 : Int32)) hx hb dX3_field_28 (by decide) ?_
    exact W.iret hx hb hr (fun t ht hW => ⟨by rw [some_of h], ht⟩) (fun _ h => by cases h) dX3_field_29
  · have h := zz_neg c_1 h
    refine lv_iload_n hx hb dX3_field_4 rfl (lv_at hl 1 rfl) ?_
    refine lv_iconst (v := (4 : Int32)) hx hb dX3_field_5 (by decide) ?_
    refine lv_icmp_ge (tgt := 28) hx hb dX3_field_6 (by decide) (fun c_6 => ?_) (fun c_6 => ?_)
    · have h := zz_pos c_6 h
      refine lv_iconst (v := (0 : Int32)) hx hb dX3_field_28 (by decide) ?_
      exact W.iret hx hb hr (fun t ht hW => ⟨by rw [some_of h], ht⟩) (fun _ h => by cases h) dX3_field_29
    · have h := zz_neg c_6 h
      refine lv_iload_n hx hb dX3_field_9 rfl (lv_at hl 2 rfl) ?_
      refine lv_if_lt (tgt := 28) hx hb dX3_field_10 (by decide) (fun c_10 => ?_) (fun c_10 => ?_)
      · have h := zz_pos c_10 h
        refine lv_iconst (v := (0 : Int32)) hx hb dX3_field_28 (by decide) ?_
        exact W.iret hx hb hr (fun t ht hW => ⟨by rw [some_of h], ht⟩) (fun _ h => by cases h) dX3_field_29
      · have h := zz_neg c_10 h
        refine lv_iload_n hx hb dX3_field_13 rfl (lv_at hl 2 rfl) ?_
        refine lv_bipush (v := (8 : Int32)) hx hb dX3_field_14 (by decide) ?_
        refine lv_icmp_ge (tgt := 28) hx hb dX3_field_16 (by decide) (fun c_16 => ?_) (fun c_16 => ?_)
        · have h := zz_pos c_16 h
          refine lv_iconst (v := (0 : Int32)) hx hb dX3_field_28 (by decide) ?_
          exact W.iret hx hb hr (fun t ht hW => ⟨by rw [some_of h], ht⟩) (fun _ h => by cases h) dX3_field_29
        · have h := zz_neg c_16 h
          refine lv_iload_n hx hb dX3_field_19 rfl (lv_at hl 3 rfl) ?_
          refine lv_if_lt (tgt := 28) hx hb dX3_field_20 (by decide) (fun c_20 => ?_) (fun c_20 => ?_)
          · have h := zz_pos c_20 h
            refine lv_iconst (v := (0 : Int32)) hx hb dX3_field_28 (by decide) ?_
            exact W.iret hx hb hr (fun t ht hW => ⟨by rw [some_of h], ht⟩) (fun _ h => by cases h) dX3_field_29
          · have h := zz_neg c_20 h
            refine lv_iload_n hx hb dX3_field_23 rfl (lv_at hl 3 rfl) ?_
            refine lv_iconst (v := (3 : Int32)) hx hb dX3_field_24 (by decide) ?_
            refine lv_icmp_lt (tgt := 30) hx hb dX3_field_25 (by decide) (fun c_25 => ?_) (fun c_25 => ?_)
            · have h := zz_pos c_25 h
              refine lv_aload_n hx hb dX3_field_30 rfl (lv_at hl 0 rfl) ?_
              refine cG_306 C in_3 hw k_22 dX3_field_31 ?_
              refine lv_iload_n hx hb dX3_field_34 rfl (lv_at hl 1 rfl) ?_
              refine lv_bipush (v := (8 : Int32)) hx hb dX3_field_35 (by decide) ?_
              refine lv_imul hx hb dX3_field_37 ?_
              refine lv_iload_n hx hb dX3_field_38 rfl (lv_at hl 2 rfl) ?_
              refine lv_iadd hx hb dX3_field_39 ?_
              refine lv_iconst (v := (3 : Int32)) hx hb dX3_field_40 (by decide) ?_
              refine lv_imul hx hb dX3_field_41 ?_
              refine lv_iload_n hx hb dX3_field_42 rfl (lv_at hl 3 rfl) ?_
              refine lv_iadd hx hb dX3_field_43 ?_
              obtain ⟨b_44, h⟩ := chk_of h
              refine cL_306 C hw b_44 dX3_field_44 ?_
              exact W.iret hx hb hr (fun t ht hW => ⟨by rw [some_of h], ht⟩) (fun _ h => by cases h) dX3_field_45
            · have h := zz_neg c_25 h
              refine lv_iconst (v := (0 : Int32)) hx hb dX3_field_28 (by decide) ?_
              exact W.iret hx hb hr (fun t ht hW => ⟨by rw [some_of h], ht⟩) (fun _ h => by cases h) dX3_field_29
def fQ_addTable (N : Nat) (σ : CSt) : Option (Int32 × CSt) := some ((((cI σ 300 ((σ.1 300) + (1 : Int32))).1 300) - (1 : Int32)), (cI σ 300 ((σ.1 300) + (1 : Int32))))
set_option maxRecDepth 100000 in
set_option maxHeartbeats 4000000 in
theorem cQ_addTable {l : Launch} {D : va_G} {κ : Nat → ClassId} {ρ : Nat → Nat} {g0 : Gh} {sz : Nat} {N : Nat} {σ : CSt} {q : Int32 × CSt} (h : fQ_addTable N σ = some q) : Met l yX3_addTable wsX3_addTable ({ frames := 0, cells := 0, slots := 0, locals := 0 } : Room) (va_Pc [.ref (ρ 399)] (PC D κ ρ sz g0 σ)) (QC D κ ρ sz g0 q.2 (some (.int q.1))) 0 0 (AC ρ g0 sz) := by
  refine cMetM (Qc := fun z => QC D κ ρ z g0 q.2 (some (.int q.1))) (ret := (some .int)) (by decide) rfl rfl (Nat.le_of_ble_eq_true rfl) ?_
  intro p e s m below meth c ls C hr hlk hw hl
  obtain ⟨g, eg⟩ : ∃ x, x = g0 := ⟨_, rfl⟩
  have hw : WC D κ ρ (AC ρ g0 s.heap.size) s.heap g σ s s.heap [] := by rw [eg]; exact hw
  have hg : sub g0 g := by rw [eg]; exact sub_rf g0
  have hl : lv_has ls 1 [(0, .ref (ρ 399))] := hl
  unfold fQ_addTable at h
  have hx := C.1
  have hb := C.2.1
  have hts := C.2.2.2.2
  have hown := C.2.2.2.1
  have k_43 := hts (.fieldLink RX3 43 "PlanCabinet$Question" "tableCount" "I") (by decide +kernel)
  have in_3 : ∀ w ∈ wsX30, w ∈ wsX3_addTable := by decide +kernel
  refine lv_aload_n hx hb dX3_addTable_0 rfl (lv_at hl 0 rfl) ?_
  refine lv_dup hx hb dX3_addTable_1 rfl ?_
  refine cG_300 C in_3 hw.1 k_43 dX3_addTable_2 ?_
  refine lv_iconst (v := (1 : Int32)) hx hb dX3_addTable_5 (by decide) ?_
  refine lv_iadd hx hb dX3_addTable_6 ?_
  refine cPf_300 C in_3 hw k_43 dX3_addTable_7 (fun H locs hw => ?_)
  refine lv_aload_n hx hb dX3_addTable_10 rfl (lv_at hl 0 rfl) ?_
  refine cG_300 C in_3 hw.1 k_43 dX3_addTable_11 ?_
  refine lv_iconst (v := (1 : Int32)) hx hb dX3_addTable_14 (by decide) ?_
  refine lv_isub hx hb dX3_addTable_15 ?_
  exact W.iret hx hb hr (fun t ht hW => QC.of (by rw [← some_of h]) (by rw [← some_of h]; exact hw) hg ht hW) hw.2.2.2.2 dX3_addTable_16
def fQ_addRow (N : Nat) (σ : CSt) (x1 : Int32) (x2 : Int32) (x3 : Int32) (x4 : Int32) : Option (Int32 × CSt) := (fQ_rowsOf N σ x1).bind fun r_2 => (fQ_isTable N σ x1).bind fun r_9 => (if r_9 = 0 then some ((-4 : Int32), σ) else (if r_2 < (8 : Int32) then chk (((x1 * (8 : Int32)) + r_2) * (3 : Int32)) 96 (chk ((((x1 * (8 : Int32)) + r_2) * (3 : Int32)) + (1 : Int32)) 96 (chk ((((x1 * (8 : Int32)) + r_2) * (3 : Int32)) + (2 : Int32)) 96 (chk x1 4 (chk x1 4 (some (r_2, (cA (cA (cA (cA σ 306 (((x1 * (8 : Int32)) + r_2) * (3 : Int32)).toNatClampNeg x2) 306 ((((x1 * (8 : Int32)) + r_2) * (3 : Int32)) + (1 : Int32)).toNatClampNeg x3) 306 ((((x1 * (8 : Int32)) + r_2) * (3 : Int32)) + (2 : Int32)).toNatClampNeg x4) 305 x1.toNatClampNeg (((cA (cA (cA σ 306 (((x1 * (8 : Int32)) + r_2) * (3 : Int32)).toNatClampNeg x2) 306 ((((x1 * (8 : Int32)) + r_2) * (3 : Int32)) + (1 : Int32)).toNatClampNeg x3) 306 ((((x1 * (8 : Int32)) + r_2) * (3 : Int32)) + (2 : Int32)).toNatClampNeg x4).2.2.1 305 x1.toNatClampNeg) + (1 : Int32))))))))) else some ((-4 : Int32), σ)))
set_option maxRecDepth 100000 in
set_option maxHeartbeats 4000000 in
theorem cQ_addRow {l : Launch} {D : va_G} {κ : Nat → ClassId} {ρ : Nat → Nat} {g0 : Gh} {sz : Nat} {N : Nat} {σ : CSt} {x1 : Int32} {x2 : Int32} {x3 : Int32} {x4 : Int32} {q : Int32 × CSt} (h : fQ_addRow N σ x1 x2 x3 x4 = some q) : Met l yX3_addRow wsX3_addRow ({ frames := 2, cells := 0, slots := 0, locals := 42 } : Room) (va_Pc [.ref (ρ 399), .int x1, .int x2, .int x3, .int x4] (PC D κ ρ sz g0 σ)) (QC D κ ρ sz g0 q.2 (some (.int q.1))) 0 0 (AC ρ g0 sz) := by
  refine cMetM (Qc := fun z => QC D κ ρ z g0 q.2 (some (.int q.1))) (ret := (some .int)) (by decide) rfl rfl (Nat.le_of_ble_eq_true rfl) ?_
  intro p e s m below meth c ls C hr hlk hw hl
  obtain ⟨g, eg⟩ : ∃ x, x = g0 := ⟨_, rfl⟩
  have hw : WC D κ ρ (AC ρ g0 s.heap.size) s.heap g σ s s.heap [] := by rw [eg]; exact hw
  have hg : sub g0 g := by rw [eg]; exact sub_rf g0
  have hl : lv_has ls 7 [(0, .ref (ρ 399)), (1, .int x1), (2, .int x2), (3, .int x3), (4, .int x4)] := hl
  unfold fQ_addRow at h
  have hx := C.1
  have hb := C.2.1
  have hts := C.2.2.2.2
  have hown := C.2.2.2.1
  have k_18 := hts (.fieldLink RX3 18 "PlanCabinet$Question" "rowCounts" "[I") (by decide +kernel)
  have k_22 := hts (.fieldLink RX3 22 "PlanCabinet$Question" "fields" "[I") (by decide +kernel)
  have in_3 : ∀ w ∈ wsX30, w ∈ wsX3_addRow := by decide +kernel
  refine lv_aload_n hx hb dX3_addRow_0 rfl (lv_at hl 0 rfl) ?_
  refine lv_iload_n hx hb dX3_addRow_1 rfl (lv_at hl 1 rfl) ?_
  obtain ⟨r_2, e_2, h⟩ := bnd_of h
  refine callP (W.runV (As := [.int x1]) C (cQ_rowsOf e_2) (cwV 1 hts gX3_addRow_X3_rowsOf rfl rfl rfl (by decide +kernel) ⟨by decide, by decide⟩) (preR (recv_399 hw.1) hw.1) rfl rfl hl.1 rfl (lv_room (Nat.le_of_ble_eq_true rfl)) dX3_addRow_2 ⟨Nat.zero_le _, Nat.zero_le _⟩) ?_
  refine lv_istore (lv' := [(5, .int r_2), (0, .ref (ρ 399)), (1, .int x1), (2, .int x2), (3, .int x3), (4, .int x4)]) hx hb dX3_addRow_5 hl (by decide) rfl (fun ls hl => ?_)
  refine lv_aload_n hx hb dX3_addRow_7 rfl (lv_at hl 1 rfl) ?_
  refine lv_iload_n hx hb dX3_addRow_8 rfl (lv_at hl 2 rfl) ?_
  obtain ⟨r_9, e_9, h⟩ := bnd_of h
  refine callP (W.runV (As := [.int x1]) C (cQ_isTable e_9) (cwV 1 hts gX3_addRow_X3_isTable rfl rfl rfl (by decide +kernel) ⟨by decide, by decide⟩) (preR (recv_399 hw.1) hw.1) rfl rfl hl.1 rfl (lv_room (Nat.le_of_ble_eq_true rfl)) dX3_addRow_9 ⟨Nat.zero_le _, Nat.zero_le _⟩) ?_
  refine lv_if_eq (tgt := 22) hx hb dX3_addRow_12 (by decide) (fun c_12 => ?_) (fun c_12 => ?_)
  · have h := zz_pos c_12 h
    refine lv_bipush (v := (-4 : Int32)) hx hb dX3_addRow_22 (by decide) ?_
    exact W.iret hx hb hr (fun t ht hW => QC.of (by rw [← some_of h]) (by rw [← some_of h]; exact hw) hg ht hW) hw.2.2.2.2 dX3_addRow_24
  · have h := zz_neg c_12 h
    refine lv_iload hx hb dX3_addRow_15 (lv_at hl 0 rfl) ?_
    refine lv_bipush (v := (8 : Int32)) hx hb dX3_addRow_17 (by decide) ?_
    refine lv_icmp_lt (tgt := 25) hx hb dX3_addRow_19 (by decide) (fun c_19 => ?_) (fun c_19 => ?_)
    · have h := zz_pos c_19 h
      refine lv_iload_n hx hb dX3_addRow_25 rfl (lv_at hl 2 rfl) ?_
      refine lv_bipush (v := (8 : Int32)) hx hb dX3_addRow_26 (by decide) ?_
      refine lv_imul hx hb dX3_addRow_28 ?_
      refine lv_iload hx hb dX3_addRow_29 (lv_at hl 0 rfl) ?_
      refine lv_iadd hx hb dX3_addRow_31 ?_
      refine lv_iconst (v := (3 : Int32)) hx hb dX3_addRow_32 (by decide) ?_
      refine lv_imul hx hb dX3_addRow_33 ?_
      refine lv_istore (lv' := [(6, .int (((x1 * (8 : Int32)) + r_2) * (3 : Int32))), (5, .int r_2), (0, .ref (ρ 399)), (1, .int x1), (2, .int x2), (3, .int x3), (4, .int x4)]) hx hb dX3_addRow_34 hl (by decide) rfl (fun ls hl => ?_)
      refine lv_aload_n hx hb dX3_addRow_36 rfl (lv_at hl 2 rfl) ?_
      refine cG_306 C in_3 hw.1 k_22 dX3_addRow_37 ?_
      refine lv_iload hx hb dX3_addRow_40 (lv_at hl 0 rfl) ?_
      refine lv_iload_n hx hb dX3_addRow_42 rfl (lv_at hl 4 rfl) ?_
      obtain ⟨b_43, h⟩ := chk_of h
      refine cS_306 C hw b_43 dX3_addRow_43 (fun H locs hw => ?_)
      refine lv_aload_n hx hb dX3_addRow_44 rfl (lv_at hl 2 rfl) ?_
      refine cG_306 C in_3 hw.1 k_22 dX3_addRow_45 ?_
      refine lv_iload hx hb dX3_addRow_48 (lv_at hl 0 rfl) ?_
      refine lv_iconst (v := (1 : Int32)) hx hb dX3_addRow_50 (by decide) ?_
      refine lv_iadd hx hb dX3_addRow_51 ?_
      refine lv_iload_n hx hb dX3_addRow_52 rfl (lv_at hl 5 rfl) ?_
      obtain ⟨b_53, h⟩ := chk_of h
      refine cS_306 C hw b_53 dX3_addRow_53 (fun H locs hw => ?_)
      refine lv_aload_n hx hb dX3_addRow_54 rfl (lv_at hl 2 rfl) ?_
      refine cG_306 C in_3 hw.1 k_22 dX3_addRow_55 ?_
      refine lv_iload hx hb dX3_addRow_58 (lv_at hl 0 rfl) ?_
      refine lv_iconst (v := (2 : Int32)) hx hb dX3_addRow_60 (by decide) ?_
      refine lv_iadd hx hb dX3_addRow_61 ?_
      refine lv_iload hx hb dX3_addRow_62 (lv_at hl 6 rfl) ?_
      obtain ⟨b_64, h⟩ := chk_of h
      refine cS_306 C hw b_64 dX3_addRow_64 (fun H locs hw => ?_)
      refine lv_aload_n hx hb dX3_addRow_65 rfl (lv_at hl 2 rfl) ?_
      refine cG_305 C in_3 hw.1 k_18 dX3_addRow_66 ?_
      refine lv_iload_n hx hb dX3_addRow_69 rfl (lv_at hl 3 rfl) ?_
      refine lv_dup2_11 hx hb dX3_addRow_70 rfl rfl ?_
      obtain ⟨b_71, h⟩ := chk_of h
      refine cL_305 C hw.1 b_71 dX3_addRow_71 ?_
      refine lv_iconst (v := (1 : Int32)) hx hb dX3_addRow_72 (by decide) ?_
      refine lv_iadd hx hb dX3_addRow_73 ?_
      obtain ⟨b_74, h⟩ := chk_of h
      refine cS_305 C hw b_74 dX3_addRow_74 (fun H locs hw => ?_)
      refine lv_iload hx hb dX3_addRow_75 (lv_at hl 1 rfl) ?_
      exact W.iret hx hb hr (fun t ht hW => QC.of (by rw [← some_of h]) (by rw [← some_of h]; exact hw) hg ht hW) hw.2.2.2.2 dX3_addRow_77
    · have h := zz_neg c_19 h
      refine lv_bipush (v := (-4 : Int32)) hx hb dX3_addRow_22 (by decide) ?_
      exact W.iret hx hb hr (fun t ht hW => QC.of (by rw [← some_of h]) (by rw [← some_of h]; exact hw) hg ht hW) hw.2.2.2.2 dX3_addRow_24
def fQ_addPairing_J79 (N : Nat) (σ : CSt) (x5 : Int32) (x6 : Int32) (y1 : Int32) (y2 : Int32) : Option (Int32 × CSt) := chk y1 4 ((if x5 = 0 then some (x6, (cI (cI (cA σ 312 y1.toNatClampNeg y2) 302 x6) 301 (((cI (cA σ 312 y1.toNatClampNeg y2) 302 x6).1 301) + (1 : Int32)))) else some (x6, (cI (cA σ 312 y1.toNatClampNeg y2) 301 (((cA σ 312 y1.toNatClampNeg y2).1 301) + (1 : Int32))))))
def fQ_addPairing (N : Nat) (σ : CSt) (x1 : Int32) (x2 : Int32) (x3 : Int32) (x4 : Int32) (x5 : Int32) : Option (Int32 × CSt) := (if (σ.1 301) < (4 : Int32) then chk (σ.1 301) 4 (chk (σ.1 301) 4 (chk (σ.1 301) 4 (chk (σ.1 301) 4 (chk (σ.1 301) 4 ((if x5 = 0 then fQ_addPairing_J79 N (cA (cA (cA (cA (cA σ 307 (σ.1 301).toNatClampNeg x1) 308 (σ.1 301).toNatClampNeg x2) 309 (σ.1 301).toNatClampNeg x3) 310 (σ.1 301).toNatClampNeg x4) 311 (σ.1 301).toNatClampNeg (((1 : Int32) <<< (x1 &&& 31)) ||| ((1 : Int32) <<< (x3 &&& 31)))) x5 (σ.1 301) (σ.1 301) (1 : Int32) else fQ_addPairing_J79 N (cA (cA (cA (cA (cA σ 307 (σ.1 301).toNatClampNeg x1) 308 (σ.1 301).toNatClampNeg x2) 309 (σ.1 301).toNatClampNeg x3) 310 (σ.1 301).toNatClampNeg x4) 311 (σ.1 301).toNatClampNeg (((1 : Int32) <<< (x1 &&& 31)) ||| ((1 : Int32) <<< (x3 &&& 31)))) x5 (σ.1 301) (σ.1 301) x5)))))) else some ((-4 : Int32), σ))
set_option maxRecDepth 100000 in
set_option maxHeartbeats 4000000 in
theorem wQ_addPairing_J79 {p : Program} {l : Launch} {e : Env} {s : State} {m : MethodId} {args : Array Value} {below : List Frame} {meth : Method} {c : Code} {D : va_G} {κ : Nat → ClassId} {ρ : Nat → Nat} {g0 : Gh} (C : CallFix p m c cX3_addPairing 7 s args wsX3_addPairing RX3) (hr : meth.sig.returnType = (some .int)) (hlk : meth.locks = false) {N : Nat} {q : Int32 × CSt} : ∀ (σ : CSt) (x5 : Int32) (x6 : Int32) (y1 : Int32) (y2 : Int32) (g : Gh) (H : Heap) (locs : List Loc) (ls : Array Slot), fQ_addPairing_J79 N σ x5 x6 y1 y2 = some q → WC D κ ρ (AC ρ g0 s.heap.size) s.heap g σ s H locs → sub g0 g → lv_has ls 7 [(0, .ref (ρ 399)), (5, .int x5), (6, .int x6)] → W p l e ({ frames := 0, cells := 0, slots := 0, locals := 0 } : Room) s m args below meth c H locs 0 0 (MQ below (QC D κ ρ s.heap.size g0 q.2 (some (.int q.1))) args s 0 0 (AC ρ g0 s.heap.size)) (F0 m 79 ls [.int y2, .int y1, .ref (ρ 312)]) := by
  have hx := C.1
  have hb := C.2.1
  have hts := C.2.2.2.2
  have hown := C.2.2.2.1
  have k_9 := hts (.fieldLink RX3 9 "PlanCabinet$Question" "openPairing" "I") (by decide +kernel)
  have k_50 := hts (.fieldLink RX3 50 "PlanCabinet$Question" "pairingCount" "I") (by decide +kernel)
  have in_3 : ∀ w ∈ wsX30, w ∈ wsX3_addPairing := by decide +kernel
  intro σ x5 x6 y1 y2 g H locs ls h hw hg hl
  unfold fQ_addPairing_J79 at h
  obtain ⟨b_79, h⟩ := chk_of h
  refine cS_312 C hw b_79 dX3_addPairing_79 (fun H locs hw => ?_)
  refine lv_iload hx hb dX3_addPairing_80 (lv_at hl 1 rfl) ?_
  refine lv_if_ne (tgt := 91) hx hb dX3_addPairing_82 (by decide) (fun c_82 => ?_) (fun c_82 => ?_)
  · have h := zz_neg c_82 h
    refine lv_aload_n hx hb dX3_addPairing_91 rfl (lv_at hl 0 rfl) ?_
    refine lv_dup hx hb dX3_addPairing_92 rfl ?_
    refine cG_301 C in_3 hw.1 k_50 dX3_addPairing_93 ?_
    refine lv_iconst (v := (1 : Int32)) hx hb dX3_addPairing_96 (by decide) ?_
    refine lv_iadd hx hb dX3_addPairing_97 ?_
    refine cPf_301 C in_3 hw k_50 dX3_addPairing_98 (fun H locs hw => ?_)
    refine lv_iload hx hb dX3_addPairing_101 (lv_at hl 2 rfl) ?_
    exact W.iret hx hb hr (fun t ht hW => QC.of (by rw [← some_of h]) (by rw [← some_of h]; exact hw) hg ht hW) hw.2.2.2.2 dX3_addPairing_103
  · have h := zz_pos c_82 h
    refine lv_aload_n hx hb dX3_addPairing_85 rfl (lv_at hl 0 rfl) ?_
    refine lv_iload hx hb dX3_addPairing_86 (lv_at hl 2 rfl) ?_
    refine cPf_302 C in_3 hw k_9 dX3_addPairing_88 (fun H locs hw => ?_)
    refine lv_aload_n hx hb dX3_addPairing_91 rfl (lv_at hl 0 rfl) ?_
    refine lv_dup hx hb dX3_addPairing_92 rfl ?_
    refine cG_301 C in_3 hw.1 k_50 dX3_addPairing_93 ?_
    refine lv_iconst (v := (1 : Int32)) hx hb dX3_addPairing_96 (by decide) ?_
    refine lv_iadd hx hb dX3_addPairing_97 ?_
    refine cPf_301 C in_3 hw k_50 dX3_addPairing_98 (fun H locs hw => ?_)
    refine lv_iload hx hb dX3_addPairing_101 (lv_at hl 2 rfl) ?_
    exact W.iret hx hb hr (fun t ht hW => QC.of (by rw [← some_of h]) (by rw [← some_of h]; exact hw) hg ht hW) hw.2.2.2.2 dX3_addPairing_103
set_option maxRecDepth 100000 in
set_option maxHeartbeats 4000000 in
theorem cQ_addPairing {l : Launch} {D : va_G} {κ : Nat → ClassId} {ρ : Nat → Nat} {g0 : Gh} {sz : Nat} {N : Nat} {σ : CSt} {x1 : Int32} {x2 : Int32} {x3 : Int32} {x4 : Int32} {x5 : Int32} {q : Int32 × CSt} (h : fQ_addPairing N σ x1 x2 x3 x4 x5 = some q) : Met l yX3_addPairing wsX3_addPairing ({ frames := 0, cells := 0, slots := 0, locals := 0 } : Room) (va_Pc [.ref (ρ 399), .int x1, .int x2, .int x3, .int x4, .int x5] (PC D κ ρ sz g0 σ)) (QC D κ ρ sz g0 q.2 (some (.int q.1))) 0 0 (AC ρ g0 sz) := by
  refine cMetM (Qc := fun z => QC D κ ρ z g0 q.2 (some (.int q.1))) (ret := (some .int)) (by decide) rfl rfl (Nat.le_of_ble_eq_true rfl) ?_
  intro p e s m below meth c ls C hr hlk hw hl
  obtain ⟨g, eg⟩ : ∃ x, x = g0 := ⟨_, rfl⟩
  have hw : WC D κ ρ (AC ρ g0 s.heap.size) s.heap g σ s s.heap [] := by rw [eg]; exact hw
  have hg : sub g0 g := by rw [eg]; exact sub_rf g0
  have hl : lv_has ls 7 [(0, .ref (ρ 399)), (1, .int x1), (2, .int x2), (3, .int x3), (4, .int x4), (5, .int x5)] := hl
  unfold fQ_addPairing at h
  have hx := C.1
  have hb := C.2.1
  have hts := C.2.2.2.2
  have hown := C.2.2.2.1
  have k_25 := hts (.fieldLink RX3 25 "PlanCabinet$Question" "lowTable" "[I") (by decide +kernel)
  have k_28 := hts (.fieldLink RX3 28 "PlanCabinet$Question" "lowColumn" "[I") (by decide +kernel)
  have k_31 := hts (.fieldLink RX3 31 "PlanCabinet$Question" "highTable" "[I") (by decide +kernel)
  have k_34 := hts (.fieldLink RX3 34 "PlanCabinet$Question" "highColumn" "[I") (by decide +kernel)
  have k_37 := hts (.fieldLink RX3 37 "PlanCabinet$Question" "ends" "[I") (by decide +kernel)
  have k_40 := hts (.fieldLink RX3 40 "PlanCabinet$Question" "quarters" "[I") (by decide +kernel)
  have k_50 := hts (.fieldLink RX3 50 "PlanCabinet$Question" "pairingCount" "I") (by decide +kernel)
  have in_3 : ∀ w ∈ wsX30, w ∈ wsX3_addPairing := by decide +kernel
  refine lv_aload_n hx hb dX3_addPairing_0 rfl (lv_at hl 0 rfl) ?_
  refine cG_301 C in_3 hw.1 k_50 dX3_addPairing_1 ?_
  refine lv_istore (lv' := [(6, .int (σ.1 301)), (0, .ref (ρ 399)), (1, .int x1), (2, .int x2), (3, .int x3), (4, .int x4), (5, .int x5)]) hx hb dX3_addPairing_4 hl (by decide) rfl (fun ls hl => ?_)
  refine lv_iload hx hb dX3_addPairing_6 (lv_at hl 0 rfl) ?_
  refine lv_iconst (v := (4 : Int32)) hx hb dX3_addPairing_8 (by decide) ?_
  refine lv_icmp_lt (tgt := 15) hx hb dX3_addPairing_9 (by decide) (fun c_9 => ?_) (fun c_9 => ?_)
  · have h := zz_pos c_9 h
    refine lv_aload_n hx hb dX3_addPairing_15 rfl (lv_at hl 1 rfl) ?_
    refine cG_307 C in_3 hw.1 k_25 dX3_addPairing_16 ?_
    refine lv_iload hx hb dX3_addPairing_19 (lv_at hl 0 rfl) ?_
    refine lv_iload_n hx hb dX3_addPairing_21 rfl (lv_at hl 2 rfl) ?_
    obtain ⟨b_22, h⟩ := chk_of h
    refine cS_307 C hw b_22 dX3_addPairing_22 (fun H locs hw => ?_)
    refine lv_aload_n hx hb dX3_addPairing_23 rfl (lv_at hl 1 rfl) ?_
    refine cG_308 C in_3 hw.1 k_28 dX3_addPairing_24 ?_
    refine lv_iload hx hb dX3_addPairing_27 (lv_at hl 0 rfl) ?_
    refine lv_iload_n hx hb dX3_addPairing_29 rfl (lv_at hl 3 rfl) ?_
    obtain ⟨b_30, h⟩ := chk_of h
    refine cS_308 C hw b_30 dX3_addPairing_30 (fun H locs hw => ?_)
    refine lv_aload_n hx hb dX3_addPairing_31 rfl (lv_at hl 1 rfl) ?_
    refine cG_309 C in_3 hw.1 k_31 dX3_addPairing_32 ?_
    refine lv_iload hx hb dX3_addPairing_35 (lv_at hl 0 rfl) ?_
    refine lv_iload_n hx hb dX3_addPairing_37 rfl (lv_at hl 4 rfl) ?_
    obtain ⟨b_38, h⟩ := chk_of h
    refine cS_309 C hw b_38 dX3_addPairing_38 (fun H locs hw => ?_)
    refine lv_aload_n hx hb dX3_addPairing_39 rfl (lv_at hl 1 rfl) ?_
    refine cG_310 C in_3 hw.1 k_34 dX3_addPairing_40 ?_
    refine lv_iload hx hb dX3_addPairing_43 (lv_at hl 0 rfl) ?_
    refine lv_iload hx hb dX3_addPairing_45 (lv_at hl 5 rfl) ?_
    obtain ⟨b_47, h⟩ := chk_of h
    refine cS_310 C hw b_47 dX3_addPairing_47 (fun H locs hw => ?_)
    refine lv_aload_n hx hb dX3_addPairing_48 rfl (lv_at hl 1 rfl) ?_
    refine cG_311 C in_3 hw.1 k_37 dX3_addPairing_49 ?_
    refine lv_iload hx hb dX3_addPairing_52 (lv_at hl 0 rfl) ?_
    refine lv_iconst (v := (1 : Int32)) hx hb dX3_addPairing_54 (by decide) ?_
    refine lv_iload_n hx hb dX3_addPairing_55 rfl (lv_at hl 2 rfl) ?_
    refine lv_ishl hx hb dX3_addPairing_56 ?_
    refine lv_iconst (v := (1 : Int32)) hx hb dX3_addPairing_57 (by decide) ?_
    refine lv_iload_n hx hb dX3_addPairing_58 rfl (lv_at hl 4 rfl) ?_
    refine lv_ishl hx hb dX3_addPairing_59 ?_
    refine lv_ior hx hb dX3_addPairing_60 ?_
    obtain ⟨b_61, h⟩ := chk_of h
    refine cS_311 C hw b_61 dX3_addPairing_61 (fun H locs hw => ?_)
    refine lv_aload_n hx hb dX3_addPairing_62 rfl (lv_at hl 1 rfl) ?_
    refine cG_312 C in_3 hw.1 k_40 dX3_addPairing_63 ?_
    refine lv_iload hx hb dX3_addPairing_66 (lv_at hl 0 rfl) ?_
    refine lv_iload hx hb dX3_addPairing_68 (lv_at hl 6 rfl) ?_
    refine lv_if_ne (tgt := 77) hx hb dX3_addPairing_70 (by decide) (fun c_70 => ?_) (fun c_70 => ?_)
    · have h := zz_neg c_70 h
      refine lv_iload hx hb dX3_addPairing_77 (lv_at hl 6 rfl) ?_
      exact wQ_addPairing_J79 C hr hlk  _ _ _ _ _ _ _ _ _ h hw hg (lv_sub hl [1, 6, 0] rfl)
    · have h := zz_pos c_70 h
      refine lv_iconst (v := (1 : Int32)) hx hb dX3_addPairing_73 (by decide) ?_
      refine lv_goto (tgt := 79) hx hb dX3_addPairing_74 (by decide) ?_
      exact wQ_addPairing_J79 C hr hlk  _ _ _ _ _ _ _ _ _ h hw hg (lv_sub hl [1, 6, 0] rfl)
  · have h := zz_neg c_9 h
    refine lv_bipush (v := (-4 : Int32)) hx hb dX3_addPairing_12 (by decide) ?_
    exact W.iret hx hb hr (fun t ht hW => QC.of (by rw [← some_of h]) (by rw [← some_of h]; exact hw) hg ht hW) hw.2.2.2.2 dX3_addPairing_14
def fQ_joinedToFirst_L14 (N : Nat) (σ : CSt) (K45 : Int32 → Int32 → Option (Int32)) : Nat → Int32 → Int32 → Int32 → Option (Int32)
  | 0, _, _, _ => none
  | n + 1, x1, x2, x3 => (if (4 : Int32) ≤ x3 then K45 x1 x2 else chk x3 4 ((if ((σ.2.2.1 311 x3.toNatClampNeg) &&& x1) = 0 then fQ_joinedToFirst_L14 N σ K45 n x1 x2 (x3 + 1) else chk x3 4 (fQ_joinedToFirst_L14 N σ K45 n (x1 ||| (σ.2.2.1 311 x3.toNatClampNeg)) x2 (x3 + 1)))))
def fQ_joinedToFirst_L4 (N : Nat) (σ : CSt) : Nat → Int32 → Int32 → Option (Int32)
  | 0, _, _ => none
  | n + 1, x1, x2 => (if (σ.1 300) ≤ x2 then some x1 else fQ_joinedToFirst_L14 N σ (fun (x1 : Int32) (x2 : Int32) => fQ_joinedToFirst_L4 N σ n x1 (x2 + 1)) N x1 x2 (0 : Int32))
def fQ_joinedToFirst (N : Nat) (σ : CSt) : Option (Int32) := fQ_joinedToFirst_L4 N σ N (1 : Int32) (1 : Int32)
set_option maxRecDepth 100000 in
set_option maxHeartbeats 4000000 in
theorem wQ_joinedToFirst_L14 {p : Program} {l : Launch} {e : Env} {s : State} {m : MethodId} {args : Array Value} {below : List Frame} {meth : Method} {c : Code} {D : va_G} {κ : Nat → ClassId} {ρ : Nat → Nat} {g : Gh} {σ : CSt} (C : CallFix p m c cX3_joinedToFirst 4 s args wsX3_joinedToFirst RX3) (hr : meth.sig.returnType = (some .int)) (hlk : meth.locks = false) (hw : RC D κ ρ g σ s s.heap) {N : Nat} {r : Int32} {K45 : Int32 → Int32 → Option (Int32)} : ∀ (n : Nat) (x1 : Int32) (x2 : Int32) (x3 : Int32) (ls : Array Slot), fQ_joinedToFirst_L14 N σ K45 n x1 x2 x3 = some r → lv_has ls 4 [(0, .ref (ρ 399)), (1, .int x1), (2, .int x2), (3, .int x3)] → (∀ (x1 : Int32) (x2 : Int32) (ls : Array Slot), K45 x1 x2 = some r → lv_has ls 4 [(0, .ref (ρ 399)), (1, .int x1), (2, .int x2)] → W p l e ({ frames := 0, cells := 0, slots := 0, locals := 0 } : Room) s m args below meth c s.heap [] 0 0 (MQ below (PU (some (.int r))) args s 0 0 (fun _ => False)) (F0 m 45 ls [])) → W p l e ({ frames := 0, cells := 0, slots := 0, locals := 0 } : Room) s m args below meth c s.heap [] 0 0 (MQ below (PU (some (.int r))) args s 0 0 (fun _ => False)) (F0 m 14 ls []) := by
  have hx := C.1
  have hb := C.2.1
  have hts := C.2.2.2.2
  have hown := C.2.2.2.1
  have k_37 := hts (.fieldLink RX3 37 "PlanCabinet$Question" "ends" "[I") (by decide +kernel)
  have in_3 : ∀ w ∈ wsX30, w ∈ wsX3_joinedToFirst := by decide +kernel
  intro n
  induction n with
  | zero =>
    intro x1 x2 x3 ls h hl hK45
    rw [fQ_joinedToFirst_L14] at h
    cases h
  | succ n ih =>
    intro x1 x2 x3 ls h hl hK45
    rw [fQ_joinedToFirst_L14] at h
    refine lv_iload_n hx hb dX3_joinedToFirst_14 rfl (lv_at hl 3 rfl) ?_
    refine lv_iconst (v := (4 : Int32)) hx hb dX3_joinedToFirst_15 (by decide) ?_
    refine lv_icmp_ge (tgt := 45) hx hb dX3_joinedToFirst_16 (by decide) (fun c_16 => ?_) (fun c_16 => ?_)
    · have h := zz_pos c_16 h
      exact hK45 _ _ _ h (lv_sub hl [0, 1, 2] rfl)
    · have h := zz_neg c_16 h
      refine lv_aload_n hx hb dX3_joinedToFirst_19 rfl (lv_at hl 0 rfl) ?_
      refine cG_311 C in_3 hw k_37 dX3_joinedToFirst_20 ?_
      refine lv_iload_n hx hb dX3_joinedToFirst_23 rfl (lv_at hl 3 rfl) ?_
      obtain ⟨b_24, h⟩ := chk_of h
      refine cL_311 C hw b_24 dX3_joinedToFirst_24 ?_
      refine lv_iload_n hx hb dX3_joinedToFirst_25 rfl (lv_at hl 1 rfl) ?_
      refine lv_iand hx hb dX3_joinedToFirst_26 ?_
      refine lv_if_eq (tgt := 39) hx hb dX3_joinedToFirst_27 (by decide) (fun c_27 => ?_) (fun c_27 => ?_)
      · have h := zz_pos c_27 h
        refine lv_iinc (v := (x3 + 1)) (lv' := [(3, .int (x3 + 1)), (0, .ref (ρ 399)), (1, .int x1), (2, .int x2)]) hx hb dX3_joinedToFirst_39 hl (k := 3) rfl rfl (by decide) rfl (fun ls hl => ?_)
        refine lv_goto (tgt := 14) hx hb dX3_joinedToFirst_42 (by decide) ?_
        exact ih _ _ _ _ h (lv_sub hl [1, 2, 3, 0] rfl) hK45
      · have h := zz_neg c_27 h
        refine lv_iload_n hx hb dX3_joinedToFirst_30 rfl (lv_at hl 1 rfl) ?_
        refine lv_aload_n hx hb dX3_joinedToFirst_31 rfl (lv_at hl 0 rfl) ?_
        refine cG_311 C in_3 hw k_37 dX3_joinedToFirst_32 ?_
        refine lv_iload_n hx hb dX3_joinedToFirst_35 rfl (lv_at hl 3 rfl) ?_
        obtain ⟨b_36, h⟩ := chk_of h
        refine cL_311 C hw b_36 dX3_joinedToFirst_36 ?_
        refine lv_ior hx hb dX3_joinedToFirst_37 ?_
        refine lv_istore_n (lv' := [(1, .int (x1 ||| (σ.2.2.1 311 x3.toNatClampNeg))), (0, .ref (ρ 399)), (2, .int x2), (3, .int x3)]) hx hb dX3_joinedToFirst_38 rfl hl (by decide) rfl (fun ls hl => ?_)
        refine lv_iinc (v := (x3 + 1)) (lv' := [(3, .int (x3 + 1)), (1, .int (x1 ||| (σ.2.2.1 311 x3.toNatClampNeg))), (0, .ref (ρ 399)), (2, .int x2)]) hx hb dX3_joinedToFirst_39 hl (k := 3) rfl rfl (by decide) rfl (fun ls hl => ?_)
        refine lv_goto (tgt := 14) hx hb dX3_joinedToFirst_42 (by decide) ?_
        exact ih _ _ _ _ h (lv_sub hl [2, 1, 3, 0] rfl) hK45
set_option maxRecDepth 100000 in
set_option maxHeartbeats 4000000 in
theorem wQ_joinedToFirst_L4 {p : Program} {l : Launch} {e : Env} {s : State} {m : MethodId} {args : Array Value} {below : List Frame} {meth : Method} {c : Code} {D : va_G} {κ : Nat → ClassId} {ρ : Nat → Nat} {g : Gh} {σ : CSt} (C : CallFix p m c cX3_joinedToFirst 4 s args wsX3_joinedToFirst RX3) (hr : meth.sig.returnType = (some .int)) (hlk : meth.locks = false) (hw : RC D κ ρ g σ s s.heap) {N : Nat} {r : Int32} : ∀ (n : Nat) (x1 : Int32) (x2 : Int32) (ls : Array Slot), fQ_joinedToFirst_L4 N σ n x1 x2 = some r → lv_has ls 4 [(0, .ref (ρ 399)), (1, .int x1), (2, .int x2)] → W p l e ({ frames := 0, cells := 0, slots := 0, locals := 0 } : Room) s m args below meth c s.heap [] 0 0 (MQ below (PU (some (.int r))) args s 0 0 (fun _ => False)) (F0 m 4 ls []) := by
  have hx := C.1
  have hb := C.2.1
  have hts := C.2.2.2.2
  have hown := C.2.2.2.1
  have k_43 := hts (.fieldLink RX3 43 "PlanCabinet$Question" "tableCount" "I") (by decide +kernel)
  have in_3 : ∀ w ∈ wsX30, w ∈ wsX3_joinedToFirst := by decide +kernel
  intro n
  induction n with
  | zero =>
    intro x1 x2 ls h hl
    rw [fQ_joinedToFirst_L4] at h
    cases h
  | succ n ih =>
    intro x1 x2 ls h hl
    rw [fQ_joinedToFirst_L4] at h
    refine lv_iload_n hx hb dX3_joinedToFirst_4 rfl (lv_at hl 2 rfl) ?_
    refine lv_aload_n hx hb dX3_joinedToFirst_5 rfl (lv_at hl 0 rfl) ?_
    refine cG_300 C in_3 hw k_43 dX3_joinedToFirst_6 ?_
    refine lv_icmp_ge (tgt := 51) hx hb dX3_joinedToFirst_9 (by decide) (fun c_9 => ?_) (fun c_9 => ?_)
    · have h := zz_pos c_9 h
      refine lv_iload_n hx hb dX3_joinedToFirst_51 rfl (lv_at hl 1 rfl) ?_
      exact W.iret hx hb hr (fun t ht hW => ⟨by rw [some_of h], ht⟩) (fun _ h => by cases h) dX3_joinedToFirst_52
    · have h := zz_neg c_9 h
      refine lv_iconst (v := (0 : Int32)) hx hb dX3_joinedToFirst_12 (by decide) ?_
      refine lv_istore_n (lv' := [(3, .int (0 : Int32)), (0, .ref (ρ 399)), (1, .int x1), (2, .int x2)]) hx hb dX3_joinedToFirst_13 rfl hl (by decide) rfl (fun ls hl => ?_)
      refine wQ_joinedToFirst_L14 C hr hlk hw _ _ _ _ _ h (lv_sub hl [1, 2, 3, 0] rfl) ?_
      intro x1 x2 ls h hl
      refine lv_iinc (v := (x2 + 1)) (lv' := [(2, .int (x2 + 1)), (0, .ref (ρ 399)), (1, .int x1)]) hx hb dX3_joinedToFirst_45 hl (k := 2) rfl rfl (by decide) rfl (fun ls hl => ?_)
      refine lv_goto (tgt := 4) hx hb dX3_joinedToFirst_48 (by decide) ?_
      exact ih _ _ _ h (lv_sub hl [1, 2, 0] rfl)
set_option maxRecDepth 100000 in
set_option maxHeartbeats 4000000 in
theorem cQ_joinedToFirst {l : Launch} {D : va_G} {κ : Nat → ClassId} {ρ : Nat → Nat} {g : Gh} {N : Nat} {σ : CSt} {r : Int32} (h : fQ_joinedToFirst N σ = some r) : Met l yX3_joinedToFirst wsX3_joinedToFirst ({ frames := 0, cells := 0, slots := 0, locals := 0 } : Room) (va_Pc [.ref (ρ 399)] (PRC D κ ρ g σ)) (PU (some (.int r))) 0 0 (fun _ => False) := by
  refine cMetR (ret := (some .int)) (by decide) rfl rfl (Nat.le_of_ble_eq_true rfl) ?_
  intro p e s m below meth c ls C hr hlk hw hl
  have hl : lv_has ls 4 [(0, .ref (ρ 399))] := hl
  unfold fQ_joinedToFirst at h
  have hx := C.1
  have hb := C.2.1
  have hts := C.2.2.2.2
  have hown := C.2.2.2.1
  refine lv_iconst (v := (1 : Int32)) hx hb dX3_joinedToFirst_0 (by decide) ?_
  refine lv_istore_n (lv' := [(1, .int (1 : Int32)), (0, .ref (ρ 399))]) hx hb dX3_joinedToFirst_1 rfl hl (by decide) rfl (fun ls hl => ?_)
  refine lv_iconst (v := (1 : Int32)) hx hb dX3_joinedToFirst_2 (by decide) ?_
  refine lv_istore_n (lv' := [(2, .int (1 : Int32)), (1, .int (1 : Int32)), (0, .ref (ρ 399))]) hx hb dX3_joinedToFirst_3 rfl hl (by decide) rfl (fun ls hl => ?_)
  exact wQ_joinedToFirst_L4 C hr hlk hw _ _ _ _ h (lv_sub hl [2, 1, 0] rfl)
def fQ_isWhole_L2 (N : Nat) (σ : CSt) (K26 : Option (Int32)) : Nat → Int32 → Option (Int32)
  | 0, _ => none
  | n + 1, x1 => (if (σ.1 300) ≤ x1 then K26 else (fQ_rowsOf N σ x1).bind fun r_12 => (if r_12 = 0 then some (0 : Int32) else fQ_isWhole_L2 N σ K26 n (x1 + 1)))
def fQ_isWhole (N : Nat) (σ : CSt) : Option (Int32) := fQ_isWhole_L2 N σ ((if (σ.1 300) ≤ 0 then some (0 : Int32) else (fQ_joinedToFirst N σ).bind fun r_34 => (fQ_allTables N σ).bind fun r_38 => (if r_34 = r_38 then some (1 : Int32) else some (0 : Int32)))) N (0 : Int32)
set_option maxRecDepth 100000 in
set_option maxHeartbeats 4000000 in
theorem wQ_isWhole_L2 {p : Program} {l : Launch} {e : Env} {s : State} {m : MethodId} {args : Array Value} {below : List Frame} {meth : Method} {c : Code} {D : va_G} {κ : Nat → ClassId} {ρ : Nat → Nat} {g : Gh} {σ : CSt} (C : CallFix p m c cX3_isWhole 2 s args wsX3_isWhole RX3) (hr : meth.sig.returnType = (some .boolean)) (hlk : meth.locks = false) (hw : RC D κ ρ g σ s s.heap) {N : Nat} {r : Int32} {K26 : Option (Int32)} : ∀ (n : Nat) (x1 : Int32) (ls : Array Slot), fQ_isWhole_L2 N σ K26 n x1 = some r → lv_has ls 2 [(0, .ref (ρ 399)), (1, .int x1)] → (∀ (ls : Array Slot), K26  = some r → lv_has ls 2 [(0, .ref (ρ 399))] → W p l e ({ frames := 2, cells := 0, slots := 0, locals := 42 } : Room) s m args below meth c s.heap [] 0 0 (MQ below (PU (some (.int r))) args s 0 0 (fun _ => False)) (F0 m 26 ls [])) → W p l e ({ frames := 2, cells := 0, slots := 0, locals := 42 } : Room) s m args below meth c s.heap [] 0 0 (MQ below (PU (some (.int r))) args s 0 0 (fun _ => False)) (F0 m 2 ls []) := by
  have hx := C.1
  have hb := C.2.1
  have hts := C.2.2.2.2
  have hown := C.2.2.2.1
  have k_43 := hts (.fieldLink RX3 43 "PlanCabinet$Question" "tableCount" "I") (by decide +kernel)
  have in_3 : ∀ w ∈ wsX30, w ∈ wsX3_isWhole := by decide +kernel
  intro n
  induction n with
  | zero =>
    intro x1 ls h hl hK26
    rw [fQ_isWhole_L2] at h
    cases h
  | succ n ih =>
    intro x1 ls h hl hK26
    rw [fQ_isWhole_L2] at h
    refine lv_iload_n hx hb dX3_isWhole_2 rfl (lv_at hl 1 rfl) ?_
    refine lv_aload_n hx hb dX3_isWhole_3 rfl (lv_at hl 0 rfl) ?_
    refine cG_300 C in_3 hw k_43 dX3_isWhole_4 ?_
    refine lv_icmp_ge (tgt := 26) hx hb dX3_isWhole_7 (by decide) (fun c_7 => ?_) (fun c_7 => ?_)
    · have h := zz_pos c_7 h
      exact hK26 _ h (lv_sub hl [0] rfl)
    · have h := zz_neg c_7 h
      refine lv_aload_n hx hb dX3_isWhole_10 rfl (lv_at hl 0 rfl) ?_
      refine lv_iload_n hx hb dX3_isWhole_11 rfl (lv_at hl 1 rfl) ?_
      obtain ⟨r_12, e_12, h⟩ := bnd_of h
      refine callP (W.runV (As := [.int x1]) C (cQ_rowsOf e_12) (cwV 1 hts gX3_isWhole_X3_rowsOf rfl rfl rfl (by decide +kernel) ⟨by decide, by decide⟩) (preR (recv_399 hw) hw) rfl rfl hl.1 rfl (lv_room (Nat.le_of_ble_eq_true rfl)) dX3_isWhole_12 ⟨Nat.zero_le _, Nat.zero_le _⟩) ?_
      refine lv_if_ne (tgt := 20) hx hb dX3_isWhole_15 (by decide) (fun c_15 => ?_) (fun c_15 => ?_)
      · have h := zz_neg c_15 h
        refine lv_iinc (v := (x1 + 1)) (lv' := [(1, .int (x1 + 1)), (0, .ref (ρ 399))]) hx hb dX3_isWhole_20 hl (k := 1) rfl rfl (by decide) rfl (fun ls hl => ?_)
        refine lv_goto (tgt := 2) hx hb dX3_isWhole_23 (by decide) ?_
        exact ih _ _ h (lv_sub hl [1, 0] rfl) hK26
      · have h := zz_pos c_15 h
        refine lv_iconst (v := (0 : Int32)) hx hb dX3_isWhole_18 (by decide) ?_
        exact W.zret (ty := .boolean) hx hb hr (by decide +kernel) (fun t ht hW => ⟨by rw [some_of h], ht⟩) (fun _ h => by cases h) dX3_isWhole_19
set_option maxRecDepth 100000 in
set_option maxHeartbeats 4000000 in
theorem cQ_isWhole {l : Launch} {D : va_G} {κ : Nat → ClassId} {ρ : Nat → Nat} {g : Gh} {N : Nat} {σ : CSt} {r : Int32} (h : fQ_isWhole N σ = some r) : Met l yX3_isWhole wsX3_isWhole ({ frames := 2, cells := 0, slots := 0, locals := 42 } : Room) (va_Pc [.ref (ρ 399)] (PRC D κ ρ g σ)) (PU (some (.int r))) 0 0 (fun _ => False) := by
  refine cMetR (ret := (some .boolean)) (by decide) rfl rfl (Nat.le_of_ble_eq_true rfl) ?_
  intro p e s m below meth c ls C hr hlk hw hl
  have hl : lv_has ls 2 [(0, .ref (ρ 399))] := hl
  unfold fQ_isWhole at h
  have hx := C.1
  have hb := C.2.1
  have hts := C.2.2.2.2
  have hown := C.2.2.2.1
  have k_43 := hts (.fieldLink RX3 43 "PlanCabinet$Question" "tableCount" "I") (by decide +kernel)
  have in_3 : ∀ w ∈ wsX30, w ∈ wsX3_isWhole := by decide +kernel
  refine lv_iconst (v := (0 : Int32)) hx hb dX3_isWhole_0 (by decide) ?_
  refine lv_istore_n (lv' := [(1, .int (0 : Int32)), (0, .ref (ρ 399))]) hx hb dX3_isWhole_1 rfl hl (by decide) rfl (fun ls hl => ?_)
  refine wQ_isWhole_L2 C hr hlk hw _ _ _ h (lv_sub hl [1, 0] rfl) ?_
  intro ls h hl
  refine lv_aload_n hx hb dX3_isWhole_26 rfl (lv_at hl 0 rfl) ?_
  refine cG_300 C in_3 hw k_43 dX3_isWhole_27 ?_
  refine lv_if_le (tgt := 48) hx hb dX3_isWhole_30 (by decide) (fun c_30 => ?_) (fun c_30 => ?_)
  · have h := zz_pos c_30 h
    refine lv_iconst (v := (0 : Int32)) hx hb dX3_isWhole_48 (by decide) ?_
    exact W.zret (ty := .boolean) hx hb hr (by decide +kernel) (fun t ht hW => ⟨by rw [some_of h], ht⟩) (fun _ h => by cases h) dX3_isWhole_49
  · have h := zz_neg c_30 h
    refine lv_aload_n hx hb dX3_isWhole_33 rfl (lv_at hl 0 rfl) ?_
    obtain ⟨r_34, e_34, h⟩ := bnd_of h
    refine callP (W.runV (As := []) C (cQ_joinedToFirst e_34) (cwV 0 hts gX3_isWhole_X3_joinedToFirst rfl rfl rfl (by decide +kernel) ⟨by decide, by decide⟩) (preR (recv_399 hw) hw) rfl rfl hl.1 rfl (lv_room (Nat.le_of_ble_eq_true rfl)) dX3_isWhole_34 ⟨Nat.zero_le _, Nat.zero_le _⟩) ?_
    refine lv_aload_n hx hb dX3_isWhole_37 rfl (lv_at hl 0 rfl) ?_
    obtain ⟨r_38, e_38, h⟩ := bnd_of h
    refine callP (W.runV (As := []) C (cQ_allTables e_38) (cwV 0 hts gX3_isWhole_X3_allTables rfl rfl rfl (by decide +kernel) ⟨by decide, by decide⟩) (preR (recv_399 hw) hw) rfl rfl hl.1 rfl (lv_room (Nat.le_of_ble_eq_true rfl)) dX3_isWhole_38 ⟨Nat.zero_le _, Nat.zero_le _⟩) ?_
    refine lv_icmp_ne (tgt := 48) hx hb dX3_isWhole_41 (by decide) (fun c_41 => ?_) (fun c_41 => ?_)
    · have h := zz_neg c_41 h
      refine lv_iconst (v := (0 : Int32)) hx hb dX3_isWhole_48 (by decide) ?_
      exact W.zret (ty := .boolean) hx hb hr (by decide +kernel) (fun t ht hW => ⟨by rw [some_of h], ht⟩) (fun _ h => by cases h) dX3_isWhole_49
    · have h := zz_pos c_41 h
      refine lv_iconst (v := (1 : Int32)) hx hb dX3_isWhole_44 (by decide) ?_
      refine lv_goto (tgt := 49) hx hb dX3_isWhole_45 (by decide) ?_
      exact W.zret (ty := .boolean) hx hb hr (by decide +kernel) (fun t ht hW => ⟨by rw [some_of h], ht⟩) (fun _ h => by cases h) dX3_isWhole_49
def fQ_isInside (N : Nat) (σ : CSt) (x1 : Int32) (x2 : Int32) : Option (Int32) := (fQ_isPairing N σ x1).bind fun r_2 => (if r_2 = 0 then some (0 : Int32) else chk x1 4 (chk x1 4 ((if ((σ.2.2.1 311 x1.toNatClampNeg) &&& x2) = (σ.2.2.1 311 x1.toNatClampNeg) then some (1 : Int32) else some (0 : Int32)))))
set_option maxRecDepth 100000 in
set_option maxHeartbeats 4000000 in
theorem cQ_isInside {l : Launch} {D : va_G} {κ : Nat → ClassId} {ρ : Nat → Nat} {g : Gh} {N : Nat} {σ : CSt} {x1 : Int32} {x2 : Int32} {r : Int32} (h : fQ_isInside N σ x1 x2 = some r) : Met l yX3_isInside wsX3_isInside ({ frames := 1, cells := 0, slots := 0, locals := 21 } : Room) (va_Pc [.ref (ρ 399), .int x1, .int x2] (PRC D κ ρ g σ)) (PU (some (.int r))) 0 0 (fun _ => False) := by
  refine cMetR (ret := (some .boolean)) (by decide) rfl rfl (Nat.le_of_ble_eq_true rfl) ?_
  intro p e s m below meth c ls C hr hlk hw hl
  have hl : lv_has ls 3 [(0, .ref (ρ 399)), (1, .int x1), (2, .int x2)] := hl
  unfold fQ_isInside at h
  have hx := C.1
  have hb := C.2.1
  have hts := C.2.2.2.2
  have hown := C.2.2.2.1
  have k_37 := hts (.fieldLink RX3 37 "PlanCabinet$Question" "ends" "[I") (by decide +kernel)
  have in_3 : ∀ w ∈ wsX30, w ∈ wsX3_isInside := by decide +kernel
  refine lv_aload_n hx hb dX3_isInside_0 rfl (lv_at hl 0 rfl) ?_
  refine lv_iload_n hx hb dX3_isInside_1 rfl (lv_at hl 1 rfl) ?_
  obtain ⟨r_2, e_2, h⟩ := bnd_of h
  refine callP (W.runV (As := [.int x1]) C (cQ_isPairing e_2) (cwV 1 hts gX3_isInside_X3_isPairing rfl rfl rfl (by decide +kernel) ⟨by decide, by decide⟩) (preR (recv_399 hw) hw) rfl rfl hl.1 rfl (lv_room (Nat.le_of_ble_eq_true rfl)) dX3_isInside_2 ⟨Nat.zero_le _, Nat.zero_le _⟩) ?_
  refine lv_if_eq (tgt := 29) hx hb dX3_isInside_5 (by decide) (fun c_5 => ?_) (fun c_5 => ?_)
  · have h := zz_pos c_5 h
    refine lv_iconst (v := (0 : Int32)) hx hb dX3_isInside_29 (by decide) ?_
    exact W.zret (ty := .boolean) hx hb hr (by decide +kernel) (fun t ht hW => ⟨by rw [some_of h], ht⟩) (fun _ h => by cases h) dX3_isInside_30
  · have h := zz_neg c_5 h
    refine lv_aload_n hx hb dX3_isInside_8 rfl (lv_at hl 0 rfl) ?_
    refine cG_311 C in_3 hw k_37 dX3_isInside_9 ?_
    refine lv_iload_n hx hb dX3_isInside_12 rfl (lv_at hl 1 rfl) ?_
    obtain ⟨b_13, h⟩ := chk_of h
    refine cL_311 C hw b_13 dX3_isInside_13 ?_
    refine lv_iload_n hx hb dX3_isInside_14 rfl (lv_at hl 2 rfl) ?_
    refine lv_iand hx hb dX3_isInside_15 ?_
    refine lv_aload_n hx hb dX3_isInside_16 rfl (lv_at hl 0 rfl) ?_
    refine cG_311 C in_3 hw k_37 dX3_isInside_17 ?_
    refine lv_iload_n hx hb dX3_isInside_20 rfl (lv_at hl 1 rfl) ?_
    obtain ⟨b_21, h⟩ := chk_of h
    refine cL_311 C hw b_21 dX3_isInside_21 ?_
    refine lv_icmp_ne (tgt := 29) hx hb dX3_isInside_22 (by decide) (fun c_22 => ?_) (fun c_22 => ?_)
    · have h := zz_neg c_22 h
      refine lv_iconst (v := (0 : Int32)) hx hb dX3_isInside_29 (by decide) ?_
      exact W.zret (ty := .boolean) hx hb hr (by decide +kernel) (fun t ht hW => ⟨by rw [some_of h], ht⟩) (fun _ h => by cases h) dX3_isInside_30
    · have h := zz_pos c_22 h
      refine lv_iconst (v := (1 : Int32)) hx hb dX3_isInside_25 (by decide) ?_
      refine lv_goto (tgt := 30) hx hb dX3_isInside_26 (by decide) ?_
      exact W.zret (ty := .boolean) hx hb hr (by decide +kernel) (fun t ht hW => ⟨by rw [some_of h], ht⟩) (fun _ h => by cases h) dX3_isInside_30
def fQ_quartersOf (N : Nat) (σ : CSt) (x1 : Int32) : Option (Int32) := (fQ_isPairing N σ x1).bind fun r_2 => (if r_2 = 0 then some (4 : Int32) else chk x1 4 (some (σ.2.2.1 312 x1.toNatClampNeg)))
set_option maxRecDepth 100000 in
set_option maxHeartbeats 4000000 in
theorem cQ_quartersOf {l : Launch} {D : va_G} {κ : Nat → ClassId} {ρ : Nat → Nat} {g : Gh} {N : Nat} {σ : CSt} {x1 : Int32} {r : Int32} (h : fQ_quartersOf N σ x1 = some r) : Met l yX3_quartersOf wsX3_quartersOf ({ frames := 1, cells := 0, slots := 0, locals := 21 } : Room) (va_Pc [.ref (ρ 399), .int x1] (PRC D κ ρ g σ)) (PU (some (.int r))) 0 0 (fun _ => False) := by
  refine cMetR (ret := (some .int)) (by decide) rfl rfl (Nat.le_of_ble_eq_true rfl) ?_
  intro p e s m below meth c ls C hr hlk hw hl
  have hl : lv_has ls 2 [(0, .ref (ρ 399)), (1, .int x1)] := hl
  unfold fQ_quartersOf at h
  have hx := C.1
  have hb := C.2.1
  have hts := C.2.2.2.2
  have hown := C.2.2.2.1
  have k_40 := hts (.fieldLink RX3 40 "PlanCabinet$Question" "quarters" "[I") (by decide +kernel)
  have in_3 : ∀ w ∈ wsX30, w ∈ wsX3_quartersOf := by decide +kernel
  refine lv_aload_n hx hb dX3_quartersOf_0 rfl (lv_at hl 0 rfl) ?_
  refine lv_iload_n hx hb dX3_quartersOf_1 rfl (lv_at hl 1 rfl) ?_
  obtain ⟨r_2, e_2, h⟩ := bnd_of h
  refine callP (W.runV (As := [.int x1]) C (cQ_isPairing e_2) (cwV 1 hts gX3_quartersOf_X3_isPairing rfl rfl rfl (by decide +kernel) ⟨by decide, by decide⟩) (preR (recv_399 hw) hw) rfl rfl hl.1 rfl (lv_room (Nat.le_of_ble_eq_true rfl)) dX3_quartersOf_2 ⟨Nat.zero_le _, Nat.zero_le _⟩) ?_
  refine lv_if_eq (tgt := 17) hx hb dX3_quartersOf_5 (by decide) (fun c_5 => ?_) (fun c_5 => ?_)
  · have h := zz_pos c_5 h
    refine lv_iconst (v := (4 : Int32)) hx hb dX3_quartersOf_17 (by decide) ?_
    exact W.iret hx hb hr (fun t ht hW => ⟨by rw [some_of h], ht⟩) (fun _ h => by cases h) dX3_quartersOf_18
  · have h := zz_neg c_5 h
    refine lv_aload_n hx hb dX3_quartersOf_8 rfl (lv_at hl 0 rfl) ?_
    refine cG_312 C in_3 hw k_40 dX3_quartersOf_9 ?_
    refine lv_iload_n hx hb dX3_quartersOf_12 rfl (lv_at hl 1 rfl) ?_
    obtain ⟨b_13, h⟩ := chk_of h
    refine cL_312 C hw b_13 dX3_quartersOf_13 ?_
    refine lv_goto (tgt := 18) hx hb dX3_quartersOf_14 (by decide) ?_
    exact W.iret hx hb hr (fun t ht hW => ⟨by rw [some_of h], ht⟩) (fun _ h => by cases h) dX3_quartersOf_18
def fQ_isBetween (N : Nat) (σ : CSt) (x1 : Int32) (x2 : Int32) (x3 : Int32) : Option (Int32) := (if x1 < 0 then some (0 : Int32) else (if (4 : Int32) ≤ x1 then some (0 : Int32) else chk x1 4 ((if ((σ.2.2.1 311 x1.toNatClampNeg) &&& x2) = 0 then some (0 : Int32) else chk x1 4 ((if ((σ.2.2.1 311 x1.toNatClampNeg) &&& x3) = 0 then some (0 : Int32) else some (1 : Int32)))))))
set_option maxRecDepth 100000 in
set_option maxHeartbeats 4000000 in
theorem cQ_isBetween {l : Launch} {D : va_G} {κ : Nat → ClassId} {ρ : Nat → Nat} {g : Gh} {N : Nat} {σ : CSt} {x1 : Int32} {x2 : Int32} {x3 : Int32} {r : Int32} (h : fQ_isBetween N σ x1 x2 x3 = some r) : Met l yX3_isBetween wsX3_isBetween ({ frames := 0, cells := 0, slots := 0, locals := 0 } : Room) (va_Pc [.ref (ρ 399), .int x1, .int x2, .int x3] (PRC D κ ρ g σ)) (PU (some (.int r))) 0 0 (fun _ => False) := by
  refine cMetR (ret := (some .boolean)) (by decide) rfl rfl (Nat.le_of_ble_eq_true rfl) ?_
  intro p e s m below meth c ls C hr hlk hw hl
  have hl : lv_has ls 4 [(0, .ref (ρ 399)), (1, .int x1), (2, .int x2), (3, .int x3)] := hl
  unfold fQ_isBetween at h
  have hx := C.1
  have hb := C.2.1
  have hts := C.2.2.2.2
  have hown := C.2.2.2.1
  have k_37 := hts (.fieldLink RX3 37 "PlanCabinet$Question" "ends" "[I") (by decide +kernel)
  have in_3 : ∀ w ∈ wsX30, w ∈ wsX3_isBetween := by decide +kernel
  refine lv_iload_n hx hb dX3_isBetween_0 rfl (lv_at hl 1 rfl) ?_
  refine lv_if_lt (tgt := 35) hx hb dX3_isBetween_1 (by decide) (fun c_1 => ?_) (fun c_1 => ?_)
  · have h := zz_pos c_1 h
    refine lv_iconst (v := (0 : Int32)) hx hb dX3_isBetween_35 (by decide) ?_
    exact W.zret (ty := .boolean) hx hb hr (by decide +kernel) (fun t ht hW => ⟨by rw [some_of h], ht⟩) (fun _ h => by cases h) dX3_isBetween_36
  · have h := zz_neg c_1 h
    refine lv_iload_n hx hb dX3_isBetween_4 rfl (lv_at hl 1 rfl) ?_
    refine lv_iconst (v := (4 : Int32)) hx hb dX3_isBetween_5 (by decide) ?_
    refine lv_icmp_ge (tgt := 35) hx hb dX3_isBetween_6 (by decide) (fun c_6 => ?_) (fun c_6 => ?_)
    · have h := zz_pos c_6 h
      refine lv_iconst (v := (0 : Int32)) hx hb dX3_isBetween_35 (by decide) ?_
      exact W.zret (ty := .boolean) hx hb hr (by decide +kernel) (fun t ht hW => ⟨by rw [some_of h], ht⟩) (fun _ h => by cases h) dX3_isBetween_36
    · have h := zz_neg c_6 h
      refine lv_aload_n hx hb dX3_isBetween_9 rfl (lv_at hl 0 rfl) ?_
      refine cG_311 C in_3 hw k_37 dX3_isBetween_10 ?_
      refine lv_iload_n hx hb dX3_isBetween_13 rfl (lv_at hl 1 rfl) ?_
      obtain ⟨b_14, h⟩ := chk_of h
      refine cL_311 C hw b_14 dX3_isBetween_14 ?_
      refine lv_iload_n hx hb dX3_isBetween_15 rfl (lv_at hl 2 rfl) ?_
      refine lv_iand hx hb dX3_isBetween_16 ?_
      refine lv_if_eq (tgt := 35) hx hb dX3_isBetween_17 (by decide) (fun c_17 => ?_) (fun c_17 => ?_)
      · have h := zz_pos c_17 h
        refine lv_iconst (v := (0 : Int32)) hx hb dX3_isBetween_35 (by decide) ?_
        exact W.zret (ty := .boolean) hx hb hr (by decide +kernel) (fun t ht hW => ⟨by rw [some_of h], ht⟩) (fun _ h => by cases h) dX3_isBetween_36
      · have h := zz_neg c_17 h
        refine lv_aload_n hx hb dX3_isBetween_20 rfl (lv_at hl 0 rfl) ?_
        refine cG_311 C in_3 hw k_37 dX3_isBetween_21 ?_
        refine lv_iload_n hx hb dX3_isBetween_24 rfl (lv_at hl 1 rfl) ?_
        obtain ⟨b_25, h⟩ := chk_of h
        refine cL_311 C hw b_25 dX3_isBetween_25 ?_
        refine lv_iload_n hx hb dX3_isBetween_26 rfl (lv_at hl 3 rfl) ?_
        refine lv_iand hx hb dX3_isBetween_27 ?_
        refine lv_if_eq (tgt := 35) hx hb dX3_isBetween_28 (by decide) (fun c_28 => ?_) (fun c_28 => ?_)
        · have h := zz_pos c_28 h
          refine lv_iconst (v := (0 : Int32)) hx hb dX3_isBetween_35 (by decide) ?_
          exact W.zret (ty := .boolean) hx hb hr (by decide +kernel) (fun t ht hW => ⟨by rw [some_of h], ht⟩) (fun _ h => by cases h) dX3_isBetween_36
        · have h := zz_neg c_28 h
          refine lv_iconst (v := (1 : Int32)) hx hb dX3_isBetween_31 (by decide) ?_
          refine lv_goto (tgt := 36) hx hb dX3_isBetween_32 (by decide) ?_
          exact W.zret (ty := .boolean) hx hb hr (by decide +kernel) (fun t ht hW => ⟨by rw [some_of h], ht⟩) (fun _ h => by cases h) dX3_isBetween_36
def fQ_leastBetween_L2 (N : Nat) (σ : CSt) : Nat → Int32 → Int32 → Int32 → Option (Int32)
  | 0, _, _, _ => none
  | n + 1, x1, x2, x3 => (if (4 : Int32) ≤ x3 then some (-1 : Int32) else chk x3 4 ((if ((σ.2.2.1 311 x3.toNatClampNeg) &&& x1) = 0 then fQ_leastBetween_L2 N σ n x1 x2 (x3 + 1) else chk x3 4 ((if ((σ.2.2.1 311 x3.toNatClampNeg) &&& x2) = 0 then fQ_leastBetween_L2 N σ n x1 x2 (x3 + 1) else some x3)))))
def fQ_leastBetween (N : Nat) (σ : CSt) (x1 : Int32) (x2 : Int32) : Option (Int32) := fQ_leastBetween_L2 N σ N x1 x2 (0 : Int32)
set_option maxRecDepth 100000 in
set_option maxHeartbeats 4000000 in
theorem wQ_leastBetween_L2 {p : Program} {l : Launch} {e : Env} {s : State} {m : MethodId} {args : Array Value} {below : List Frame} {meth : Method} {c : Code} {D : va_G} {κ : Nat → ClassId} {ρ : Nat → Nat} {g : Gh} {σ : CSt} (C : CallFix p m c cX3_leastBetween 4 s args wsX3_leastBetween RX3) (hr : meth.sig.returnType = (some .int)) (hlk : meth.locks = false) (hw : RC D κ ρ g σ s s.heap) {N : Nat} {r : Int32} : ∀ (n : Nat) (x1 : Int32) (x2 : Int32) (x3 : Int32) (ls : Array Slot), fQ_leastBetween_L2 N σ n x1 x2 x3 = some r → lv_has ls 4 [(0, .ref (ρ 399)), (1, .int x1), (2, .int x2), (3, .int x3)] → W p l e ({ frames := 0, cells := 0, slots := 0, locals := 0 } : Room) s m args below meth c s.heap [] 0 0 (MQ below (PU (some (.int r))) args s 0 0 (fun _ => False)) (F0 m 2 ls []) := by
  have hx := C.1
  have hb := C.2.1
  have hts := C.2.2.2.2
  have hown := C.2.2.2.1
  have k_37 := hts (.fieldLink RX3 37 "PlanCabinet$Question" "ends" "[I") (by decide +kernel)
  have in_3 : ∀ w ∈ wsX30, w ∈ wsX3_leastBetween := by decide +kernel
  intro n
  induction n with
  | zero =>
    intro x1 x2 x3 ls h hl
    rw [fQ_leastBetween_L2] at h
    cases h
  | succ n ih =>
    intro x1 x2 x3 ls h hl
    rw [fQ_leastBetween_L2] at h
    refine lv_iload_n hx hb dX3_leastBetween_2 rfl (lv_at hl 3 rfl) ?_
    refine lv_iconst (v := (4 : Int32)) hx hb dX3_leastBetween_3 (by decide) ?_
    refine lv_icmp_ge (tgt := 37) hx hb dX3_leastBetween_4 (by decide) (fun c_4 => ?_) (fun c_4 => ?_)
    · have h := zz_pos c_4 h
      refine lv_iconst (v := (-1 : Int32)) hx hb dX3_leastBetween_37 (by decide) ?_
      exact W.iret hx hb hr (fun t ht hW => ⟨by rw [some_of h], ht⟩) (fun _ h => by cases h) dX3_leastBetween_38
    · have h := zz_neg c_4 h
      refine lv_aload_n hx hb dX3_leastBetween_7 rfl (lv_at hl 0 rfl) ?_
      refine cG_311 C in_3 hw k_37 dX3_leastBetween_8 ?_
      refine lv_iload_n hx hb dX3_leastBetween_11 rfl (lv_at hl 3 rfl) ?_
      obtain ⟨b_12, h⟩ := chk_of h
      refine cL_311 C hw b_12 dX3_leastBetween_12 ?_
      refine lv_iload_n hx hb dX3_leastBetween_13 rfl (lv_at hl 1 rfl) ?_
      refine lv_iand hx hb dX3_leastBetween_14 ?_
      refine lv_if_eq (tgt := 31) hx hb dX3_leastBetween_15 (by decide) (fun c_15 => ?_) (fun c_15 => ?_)
      · have h := zz_pos c_15 h
        refine lv_iinc (v := (x3 + 1)) (lv' := [(3, .int (x3 + 1)), (0, .ref (ρ 399)), (1, .int x1), (2, .int x2)]) hx hb dX3_leastBetween_31 hl (k := 3) rfl rfl (by decide) rfl (fun ls hl => ?_)
        refine lv_goto (tgt := 2) hx hb dX3_leastBetween_34 (by decide) ?_
        exact ih _ _ _ _ h (lv_sub hl [1, 2, 3, 0] rfl)
      · have h := zz_neg c_15 h
        refine lv_aload_n hx hb dX3_leastBetween_18 rfl (lv_at hl 0 rfl) ?_
        refine cG_311 C in_3 hw k_37 dX3_leastBetween_19 ?_
        refine lv_iload_n hx hb dX3_leastBetween_22 rfl (lv_at hl 3 rfl) ?_
        obtain ⟨b_23, h⟩ := chk_of h
        refine cL_311 C hw b_23 dX3_leastBetween_23 ?_
        refine lv_iload_n hx hb dX3_leastBetween_24 rfl (lv_at hl 2 rfl) ?_
        refine lv_iand hx hb dX3_leastBetween_25 ?_
        refine lv_if_eq (tgt := 31) hx hb dX3_leastBetween_26 (by decide) (fun c_26 => ?_) (fun c_26 => ?_)
        · have h := zz_pos c_26 h
          refine lv_iinc (v := (x3 + 1)) (lv' := [(3, .int (x3 + 1)), (0, .ref (ρ 399)), (1, .int x1), (2, .int x2)]) hx hb dX3_leastBetween_31 hl (k := 3) rfl rfl (by decide) rfl (fun ls hl => ?_)
          refine lv_goto (tgt := 2) hx hb dX3_leastBetween_34 (by decide) ?_
          exact ih _ _ _ _ h (lv_sub hl [1, 2, 3, 0] rfl)
        · have h := zz_neg c_26 h
          refine lv_iload_n hx hb dX3_leastBetween_29 rfl (lv_at hl 3 rfl) ?_
          exact W.iret hx hb hr (fun t ht hW => ⟨by rw [some_of h], ht⟩) (fun _ h => by cases h) dX3_leastBetween_30
set_option maxRecDepth 100000 in
set_option maxHeartbeats 4000000 in
theorem cQ_leastBetween {l : Launch} {D : va_G} {κ : Nat → ClassId} {ρ : Nat → Nat} {g : Gh} {N : Nat} {σ : CSt} {x1 : Int32} {x2 : Int32} {r : Int32} (h : fQ_leastBetween N σ x1 x2 = some r) : Met l yX3_leastBetween wsX3_leastBetween ({ frames := 0, cells := 0, slots := 0, locals := 0 } : Room) (va_Pc [.ref (ρ 399), .int x1, .int x2] (PRC D κ ρ g σ)) (PU (some (.int r))) 0 0 (fun _ => False) := by
  refine cMetR (ret := (some .int)) (by decide) rfl rfl (Nat.le_of_ble_eq_true rfl) ?_
  intro p e s m below meth c ls C hr hlk hw hl
  have hl : lv_has ls 4 [(0, .ref (ρ 399)), (1, .int x1), (2, .int x2)] := hl
  unfold fQ_leastBetween at h
  have hx := C.1
  have hb := C.2.1
  have hts := C.2.2.2.2
  have hown := C.2.2.2.1
  refine lv_iconst (v := (0 : Int32)) hx hb dX3_leastBetween_0 (by decide) ?_
  refine lv_istore_n (lv' := [(3, .int (0 : Int32)), (0, .ref (ρ 399)), (1, .int x1), (2, .int x2)]) hx hb dX3_leastBetween_1 rfl hl (by decide) rfl (fun ls hl => ?_)
  exact wQ_leastBetween_L2 C hr hlk hw _ _ _ _ _ h (lv_sub hl [1, 2, 3, 0] rfl)
def fQ_tableOn (N : Nat) (σ : CSt) (x1 : Int32) (x2 : Int32) : Option (Int32) := (fQ_isPairing N σ x1).bind fun r_2 => (if r_2 = 0 then some (-1 : Int32) else chk x1 4 ((if ((x2 >>> ((σ.2.2.1 307 x1.toNatClampNeg) &&& 31)) &&& (1 : Int32)) = 0 then chk x1 4 (some (σ.2.2.1 309 x1.toNatClampNeg)) else chk x1 4 (some (σ.2.2.1 307 x1.toNatClampNeg)))))
set_option maxRecDepth 100000 in
set_option maxHeartbeats 4000000 in
theorem cQ_tableOn {l : Launch} {D : va_G} {κ : Nat → ClassId} {ρ : Nat → Nat} {g : Gh} {N : Nat} {σ : CSt} {x1 : Int32} {x2 : Int32} {r : Int32} (h : fQ_tableOn N σ x1 x2 = some r) : Met l yX3_tableOn wsX3_tableOn ({ frames := 1, cells := 0, slots := 0, locals := 21 } : Room) (va_Pc [.ref (ρ 399), .int x1, .int x2] (PRC D κ ρ g σ)) (PU (some (.int r))) 0 0 (fun _ => False) := by
  refine cMetR (ret := (some .int)) (by decide) rfl rfl (Nat.le_of_ble_eq_true rfl) ?_
  intro p e s m below meth c ls C hr hlk hw hl
  have hl : lv_has ls 3 [(0, .ref (ρ 399)), (1, .int x1), (2, .int x2)] := hl
  unfold fQ_tableOn at h
  have hx := C.1
  have hb := C.2.1
  have hts := C.2.2.2.2
  have hown := C.2.2.2.1
  have k_25 := hts (.fieldLink RX3 25 "PlanCabinet$Question" "lowTable" "[I") (by decide +kernel)
  have k_31 := hts (.fieldLink RX3 31 "PlanCabinet$Question" "highTable" "[I") (by decide +kernel)
  have in_3 : ∀ w ∈ wsX30, w ∈ wsX3_tableOn := by decide +kernel
  refine lv_aload_n hx hb dX3_tableOn_0 rfl (lv_at hl 0 rfl) ?_
  refine lv_iload_n hx hb dX3_tableOn_1 rfl (lv_at hl 1 rfl) ?_
  obtain ⟨r_2, e_2, h⟩ := bnd_of h
  refine callP (W.runV (As := [.int x1]) C (cQ_isPairing e_2) (cwV 1 hts gX3_tableOn_X3_isPairing rfl rfl rfl (by decide +kernel) ⟨by decide, by decide⟩) (preR (recv_399 hw) hw) rfl rfl hl.1 rfl (lv_room (Nat.le_of_ble_eq_true rfl)) dX3_tableOn_2 ⟨Nat.zero_le _, Nat.zero_le _⟩) ?_
  refine lv_if_ne (tgt := 10) hx hb dX3_tableOn_5 (by decide) (fun c_5 => ?_) (fun c_5 => ?_)
  · have h := zz_neg c_5 h
    refine lv_iload_n hx hb dX3_tableOn_10 rfl (lv_at hl 2 rfl) ?_
    refine lv_aload_n hx hb dX3_tableOn_11 rfl (lv_at hl 0 rfl) ?_
    refine cG_307 C in_3 hw k_25 dX3_tableOn_12 ?_
    refine lv_iload_n hx hb dX3_tableOn_15 rfl (lv_at hl 1 rfl) ?_
    obtain ⟨b_16, h⟩ := chk_of h
    refine cL_307 C hw b_16 dX3_tableOn_16 ?_
    refine lv_ishr hx hb dX3_tableOn_17 ?_
    refine lv_iconst (v := (1 : Int32)) hx hb dX3_tableOn_18 (by decide) ?_
    refine lv_iand hx hb dX3_tableOn_19 ?_
    refine lv_if_eq (tgt := 32) hx hb dX3_tableOn_20 (by decide) (fun c_20 => ?_) (fun c_20 => ?_)
    · have h := zz_pos c_20 h
      refine lv_aload_n hx hb dX3_tableOn_32 rfl (lv_at hl 0 rfl) ?_
      refine cG_309 C in_3 hw k_31 dX3_tableOn_33 ?_
      refine lv_iload_n hx hb dX3_tableOn_36 rfl (lv_at hl 1 rfl) ?_
      obtain ⟨b_37, h⟩ := chk_of h
      refine cL_309 C hw b_37 dX3_tableOn_37 ?_
      exact W.iret hx hb hr (fun t ht hW => ⟨by rw [some_of h], ht⟩) (fun _ h => by cases h) dX3_tableOn_38
    · have h := zz_neg c_20 h
      refine lv_aload_n hx hb dX3_tableOn_23 rfl (lv_at hl 0 rfl) ?_
      refine cG_307 C in_3 hw k_25 dX3_tableOn_24 ?_
      refine lv_iload_n hx hb dX3_tableOn_27 rfl (lv_at hl 1 rfl) ?_
      obtain ⟨b_28, h⟩ := chk_of h
      refine cL_307 C hw b_28 dX3_tableOn_28 ?_
      refine lv_goto (tgt := 38) hx hb dX3_tableOn_29 (by decide) ?_
      exact W.iret hx hb hr (fun t ht hW => ⟨by rw [some_of h], ht⟩) (fun _ h => by cases h) dX3_tableOn_38
  · have h := zz_pos c_5 h
    refine lv_iconst (v := (-1 : Int32)) hx hb dX3_tableOn_8 (by decide) ?_
    exact W.iret hx hb hr (fun t ht hW => ⟨by rw [some_of h], ht⟩) (fun _ h => by cases h) dX3_tableOn_9
def fQ_columnOn (N : Nat) (σ : CSt) (x1 : Int32) (x2 : Int32) : Option (Int32) := (fQ_isPairing N σ x1).bind fun r_2 => (if r_2 = 0 then some (-1 : Int32) else chk x1 4 ((if ((x2 >>> ((σ.2.2.1 307 x1.toNatClampNeg) &&& 31)) &&& (1 : Int32)) = 0 then chk x1 4 (some (σ.2.2.1 310 x1.toNatClampNeg)) else chk x1 4 (some (σ.2.2.1 308 x1.toNatClampNeg)))))
set_option maxRecDepth 100000 in
set_option maxHeartbeats 4000000 in
theorem cQ_columnOn {l : Launch} {D : va_G} {κ : Nat → ClassId} {ρ : Nat → Nat} {g : Gh} {N : Nat} {σ : CSt} {x1 : Int32} {x2 : Int32} {r : Int32} (h : fQ_columnOn N σ x1 x2 = some r) : Met l yX3_columnOn wsX3_columnOn ({ frames := 1, cells := 0, slots := 0, locals := 21 } : Room) (va_Pc [.ref (ρ 399), .int x1, .int x2] (PRC D κ ρ g σ)) (PU (some (.int r))) 0 0 (fun _ => False) := by
  refine cMetR (ret := (some .int)) (by decide) rfl rfl (Nat.le_of_ble_eq_true rfl) ?_
  intro p e s m below meth c ls C hr hlk hw hl
  have hl : lv_has ls 3 [(0, .ref (ρ 399)), (1, .int x1), (2, .int x2)] := hl
  unfold fQ_columnOn at h
  have hx := C.1
  have hb := C.2.1
  have hts := C.2.2.2.2
  have hown := C.2.2.2.1
  have k_25 := hts (.fieldLink RX3 25 "PlanCabinet$Question" "lowTable" "[I") (by decide +kernel)
  have k_28 := hts (.fieldLink RX3 28 "PlanCabinet$Question" "lowColumn" "[I") (by decide +kernel)
  have k_34 := hts (.fieldLink RX3 34 "PlanCabinet$Question" "highColumn" "[I") (by decide +kernel)
  have in_3 : ∀ w ∈ wsX30, w ∈ wsX3_columnOn := by decide +kernel
  refine lv_aload_n hx hb dX3_columnOn_0 rfl (lv_at hl 0 rfl) ?_
  refine lv_iload_n hx hb dX3_columnOn_1 rfl (lv_at hl 1 rfl) ?_
  obtain ⟨r_2, e_2, h⟩ := bnd_of h
  refine callP (W.runV (As := [.int x1]) C (cQ_isPairing e_2) (cwV 1 hts gX3_columnOn_X3_isPairing rfl rfl rfl (by decide +kernel) ⟨by decide, by decide⟩) (preR (recv_399 hw) hw) rfl rfl hl.1 rfl (lv_room (Nat.le_of_ble_eq_true rfl)) dX3_columnOn_2 ⟨Nat.zero_le _, Nat.zero_le _⟩) ?_
  refine lv_if_ne (tgt := 10) hx hb dX3_columnOn_5 (by decide) (fun c_5 => ?_) (fun c_5 => ?_)
  · have h := zz_neg c_5 h
    refine lv_iload_n hx hb dX3_columnOn_10 rfl (lv_at hl 2 rfl) ?_
    refine lv_aload_n hx hb dX3_columnOn_11 rfl (lv_at hl 0 rfl) ?_
    refine cG_307 C in_3 hw k_25 dX3_columnOn_12 ?_
    refine lv_iload_n hx hb dX3_columnOn_15 rfl (lv_at hl 1 rfl) ?_
    obtain ⟨b_16, h⟩ := chk_of h
    refine cL_307 C hw b_16 dX3_columnOn_16 ?_
    refine lv_ishr hx hb dX3_columnOn_17 ?_
    refine lv_iconst (v := (1 : Int32)) hx hb dX3_columnOn_18 (by decide) ?_
    refine lv_iand hx hb dX3_columnOn_19 ?_
    refine lv_if_eq (tgt := 32) hx hb dX3_columnOn_20 (by decide) (fun c_20 => ?_) (fun c_20 => ?_)
    · have h := zz_pos c_20 h
      refine lv_aload_n hx hb dX3_columnOn_32 rfl (lv_at hl 0 rfl) ?_
      refine cG_310 C in_3 hw k_34 dX3_columnOn_33 ?_
      refine lv_iload_n hx hb dX3_columnOn_36 rfl (lv_at hl 1 rfl) ?_
      obtain ⟨b_37, h⟩ := chk_of h
      refine cL_310 C hw b_37 dX3_columnOn_37 ?_
      exact W.iret hx hb hr (fun t ht hW => ⟨by rw [some_of h], ht⟩) (fun _ h => by cases h) dX3_columnOn_38
    · have h := zz_neg c_20 h
      refine lv_aload_n hx hb dX3_columnOn_23 rfl (lv_at hl 0 rfl) ?_
      refine cG_308 C in_3 hw k_28 dX3_columnOn_24 ?_
      refine lv_iload_n hx hb dX3_columnOn_27 rfl (lv_at hl 1 rfl) ?_
      obtain ⟨b_28, h⟩ := chk_of h
      refine cL_308 C hw b_28 dX3_columnOn_28 ?_
      refine lv_goto (tgt := 38) hx hb dX3_columnOn_29 (by decide) ?_
      exact W.iret hx hb hr (fun t ht hW => ⟨by rw [some_of h], ht⟩) (fun _ h => by cases h) dX3_columnOn_38
  · have h := zz_pos c_5 h
    refine lv_iconst (v := (-1 : Int32)) hx hb dX3_columnOn_8 (by decide) ?_
    exact W.iret hx hb hr (fun t ht hW => ⟨by rw [some_of h], ht⟩) (fun _ h => by cases h) dX3_columnOn_9
def fQ_isInOrder_J50 (N : Nat) (σ : CSt) (x2 : Int32) : Option (Int32) := chk x2 4 ((if (σ.2.2.1 309 x2.toNatClampNeg) = (σ.1 303) then chk x2 4 ((if (σ.2.2.1 310 x2.toNatClampNeg) = (σ.1 304) then some (1 : Int32) else some (0 : Int32))) else some (0 : Int32)))
def fQ_isInOrder (N : Nat) (σ : CSt) (x1 : Int32) (x2 : Int32) : Option (Int32) := (if x1 = (2 : Int32) then (if (σ.1 303) = (-1 : Int32) then some (0 : Int32) else (if x2 < 0 then some (0 : Int32) else (if x2 < (4 : Int32) then chk x2 4 ((if (σ.2.2.1 307 x2.toNatClampNeg) = (σ.1 303) then chk x2 4 ((if (σ.2.2.1 308 x2.toNatClampNeg) = (σ.1 304) then some (1 : Int32) else fQ_isInOrder_J50 N σ x2)) else fQ_isInOrder_J50 N σ x2)) else some (0 : Int32)))) else some (0 : Int32))
set_option maxRecDepth 100000 in
set_option maxHeartbeats 4000000 in
theorem wQ_isInOrder_J50 {p : Program} {l : Launch} {e : Env} {s : State} {m : MethodId} {args : Array Value} {below : List Frame} {meth : Method} {c : Code} {D : va_G} {κ : Nat → ClassId} {ρ : Nat → Nat} {g : Gh} {σ : CSt} (C : CallFix p m c cX3_isInOrder 3 s args wsX3_isInOrder RX3) (hr : meth.sig.returnType = (some .boolean)) (hlk : meth.locks = false) (hw : RC D κ ρ g σ s s.heap) {N : Nat} {r : Int32} : ∀ (x2 : Int32) (ls : Array Slot), fQ_isInOrder_J50 N σ x2 = some r → lv_has ls 3 [(0, .ref (ρ 399)), (2, .int x2)] → W p l e ({ frames := 0, cells := 0, slots := 0, locals := 0 } : Room) s m args below meth c s.heap [] 0 0 (MQ below (PU (some (.int r))) args s 0 0 (fun _ => False)) (F0 m 50 ls []) := by
  have hx := C.1
  have hb := C.2.1
  have hts := C.2.2.2.2
  have hown := C.2.2.2.1
  have k_15 := hts (.fieldLink RX3 15 "PlanCabinet$Question" "orderTable" "I") (by decide +kernel)
  have k_31 := hts (.fieldLink RX3 31 "PlanCabinet$Question" "highTable" "[I") (by decide +kernel)
  have k_34 := hts (.fieldLink RX3 34 "PlanCabinet$Question" "highColumn" "[I") (by decide +kernel)
  have k_67 := hts (.fieldLink RX3 67 "PlanCabinet$Question" "orderColumn" "I") (by decide +kernel)
  have in_3 : ∀ w ∈ wsX30, w ∈ wsX3_isInOrder := by decide +kernel
  intro x2 ls h hl
  unfold fQ_isInOrder_J50 at h
  refine lv_aload_n hx hb dX3_isInOrder_50 rfl (lv_at hl 0 rfl) ?_
  refine cG_309 C in_3 hw k_31 dX3_isInOrder_51 ?_
  refine lv_iload_n hx hb dX3_isInOrder_54 rfl (lv_at hl 1 rfl) ?_
  obtain ⟨b_55, h⟩ := chk_of h
  refine cL_309 C hw b_55 dX3_isInOrder_55 ?_
  refine lv_aload_n hx hb dX3_isInOrder_56 rfl (lv_at hl 0 rfl) ?_
  refine cG_303 C in_3 hw k_15 dX3_isInOrder_57 ?_
  refine lv_icmp_ne (tgt := 80) hx hb dX3_isInOrder_60 (by decide) (fun c_60 => ?_) (fun c_60 => ?_)
  · have h := zz_neg c_60 h
    refine lv_iconst (v := (0 : Int32)) hx hb dX3_isInOrder_80 (by decide) ?_
    exact W.zret (ty := .boolean) hx hb hr (by decide +kernel) (fun t ht hW => ⟨by rw [some_of h], ht⟩) (fun _ h => by cases h) dX3_isInOrder_81
  · have h := zz_pos c_60 h
    refine lv_aload_n hx hb dX3_isInOrder_63 rfl (lv_at hl 0 rfl) ?_
    refine cG_310 C in_3 hw k_34 dX3_isInOrder_64 ?_
    refine lv_iload_n hx hb dX3_isInOrder_67 rfl (lv_at hl 1 rfl) ?_
    obtain ⟨b_68, h⟩ := chk_of h
    refine cL_310 C hw b_68 dX3_isInOrder_68 ?_
    refine lv_aload_n hx hb dX3_isInOrder_69 rfl (lv_at hl 0 rfl) ?_
    refine cG_304 C in_3 hw k_67 dX3_isInOrder_70 ?_
    refine lv_icmp_ne (tgt := 80) hx hb dX3_isInOrder_73 (by decide) (fun c_73 => ?_) (fun c_73 => ?_)
    · have h := zz_neg c_73 h
      refine lv_iconst (v := (0 : Int32)) hx hb dX3_isInOrder_80 (by decide) ?_
      exact W.zret (ty := .boolean) hx hb hr (by decide +kernel) (fun t ht hW => ⟨by rw [some_of h], ht⟩) (fun _ h => by cases h) dX3_isInOrder_81
    · have h := zz_pos c_73 h
      refine lv_iconst (v := (1 : Int32)) hx hb dX3_isInOrder_76 (by decide) ?_
      refine lv_goto (tgt := 81) hx hb dX3_isInOrder_77 (by decide) ?_
      exact W.zret (ty := .boolean) hx hb hr (by decide +kernel) (fun t ht hW => ⟨by rw [some_of h], ht⟩) (fun _ h => by cases h) dX3_isInOrder_81
set_option maxRecDepth 100000 in
set_option maxHeartbeats 4000000 in
theorem cQ_isInOrder {l : Launch} {D : va_G} {κ : Nat → ClassId} {ρ : Nat → Nat} {g : Gh} {N : Nat} {σ : CSt} {x1 : Int32} {x2 : Int32} {r : Int32} (h : fQ_isInOrder N σ x1 x2 = some r) : Met l yX3_isInOrder wsX3_isInOrder ({ frames := 0, cells := 0, slots := 0, locals := 0 } : Room) (va_Pc [.ref (ρ 399), .int x1, .int x2] (PRC D κ ρ g σ)) (PU (some (.int r))) 0 0 (fun _ => False) := by
  refine cMetR (ret := (some .boolean)) (by decide) rfl rfl (Nat.le_of_ble_eq_true rfl) ?_
  intro p e s m below meth c ls C hr hlk hw hl
  have hl : lv_has ls 3 [(0, .ref (ρ 399)), (1, .int x1), (2, .int x2)] := hl
  unfold fQ_isInOrder at h
  have hx := C.1
  have hb := C.2.1
  have hts := C.2.2.2.2
  have hown := C.2.2.2.1
  have k_15 := hts (.fieldLink RX3 15 "PlanCabinet$Question" "orderTable" "I") (by decide +kernel)
  have k_25 := hts (.fieldLink RX3 25 "PlanCabinet$Question" "lowTable" "[I") (by decide +kernel)
  have k_28 := hts (.fieldLink RX3 28 "PlanCabinet$Question" "lowColumn" "[I") (by decide +kernel)
  have k_67 := hts (.fieldLink RX3 67 "PlanCabinet$Question" "orderColumn" "I") (by decide +kernel)
  have in_3 : ∀ w ∈ wsX30, w ∈ wsX3_isInOrder := by decide +kernel
  refine lv_iload_n hx hb dX3_isInOrder_0 rfl (lv_at hl 1 rfl) ?_
  refine lv_iconst (v := (2 : Int32)) hx hb dX3_isInOrder_1 (by decide) ?_
  refine lv_icmp_ne (tgt := 22) hx hb dX3_isInOrder_2 (by decide) (fun c_2 => ?_) (fun c_2 => ?_)
  · have h := zz_neg c_2 h
    refine lv_iconst (v := (0 : Int32)) hx hb dX3_isInOrder_22 (by decide) ?_
    exact W.zret (ty := .boolean) hx hb hr (by decide +kernel) (fun t ht hW => ⟨by rw [some_of h], ht⟩) (fun _ h => by cases h) dX3_isInOrder_23
  · have h := zz_pos c_2 h
    refine lv_aload_n hx hb dX3_isInOrder_5 rfl (lv_at hl 0 rfl) ?_
    refine cG_303 C in_3 hw k_15 dX3_isInOrder_6 ?_
    refine lv_iconst (v := (-1 : Int32)) hx hb dX3_isInOrder_9 (by decide) ?_
    refine lv_icmp_eq (tgt := 22) hx hb dX3_isInOrder_10 (by decide) (fun c_10 => ?_) (fun c_10 => ?_)
    · have h := zz_pos c_10 h
      refine lv_iconst (v := (0 : Int32)) hx hb dX3_isInOrder_22 (by decide) ?_
      exact W.zret (ty := .boolean) hx hb hr (by decide +kernel) (fun t ht hW => ⟨by rw [some_of h], ht⟩) (fun _ h => by cases h) dX3_isInOrder_23
    · have h := zz_neg c_10 h
      refine lv_iload_n hx hb dX3_isInOrder_13 rfl (lv_at hl 2 rfl) ?_
      refine lv_if_lt (tgt := 22) hx hb dX3_isInOrder_14 (by decide) (fun c_14 => ?_) (fun c_14 => ?_)
      · have h := zz_pos c_14 h
        refine lv_iconst (v := (0 : Int32)) hx hb dX3_isInOrder_22 (by decide) ?_
        exact W.zret (ty := .boolean) hx hb hr (by decide +kernel) (fun t ht hW => ⟨by rw [some_of h], ht⟩) (fun _ h => by cases h) dX3_isInOrder_23
      · have h := zz_neg c_14 h
        refine lv_iload_n hx hb dX3_isInOrder_17 rfl (lv_at hl 2 rfl) ?_
        refine lv_iconst (v := (4 : Int32)) hx hb dX3_isInOrder_18 (by decide) ?_
        refine lv_icmp_lt (tgt := 24) hx hb dX3_isInOrder_19 (by decide) (fun c_19 => ?_) (fun c_19 => ?_)
        · have h := zz_pos c_19 h
          refine lv_aload_n hx hb dX3_isInOrder_24 rfl (lv_at hl 0 rfl) ?_
          refine cG_307 C in_3 hw k_25 dX3_isInOrder_25 ?_
          refine lv_iload_n hx hb dX3_isInOrder_28 rfl (lv_at hl 2 rfl) ?_
          obtain ⟨b_29, h⟩ := chk_of h
          refine cL_307 C hw b_29 dX3_isInOrder_29 ?_
          refine lv_aload_n hx hb dX3_isInOrder_30 rfl (lv_at hl 0 rfl) ?_
          refine cG_303 C in_3 hw k_15 dX3_isInOrder_31 ?_
          refine lv_icmp_ne (tgt := 50) hx hb dX3_isInOrder_34 (by decide) (fun c_34 => ?_) (fun c_34 => ?_)
          · have h := zz_neg c_34 h
            exact wQ_isInOrder_J50 C hr hlk hw _ _ h (lv_sub hl [0, 2] rfl)
          · have h := zz_pos c_34 h
            refine lv_aload_n hx hb dX3_isInOrder_37 rfl (lv_at hl 0 rfl) ?_
            refine cG_308 C in_3 hw k_28 dX3_isInOrder_38 ?_
            refine lv_iload_n hx hb dX3_isInOrder_41 rfl (lv_at hl 2 rfl) ?_
            obtain ⟨b_42, h⟩ := chk_of h
            refine cL_308 C hw b_42 dX3_isInOrder_42 ?_
            refine lv_aload_n hx hb dX3_isInOrder_43 rfl (lv_at hl 0 rfl) ?_
            refine cG_304 C in_3 hw k_67 dX3_isInOrder_44 ?_
            refine lv_icmp_eq (tgt := 76) hx hb dX3_isInOrder_47 (by decide) (fun c_47 => ?_) (fun c_47 => ?_)
            · have h := zz_pos c_47 h
              refine lv_iconst (v := (1 : Int32)) hx hb dX3_isInOrder_76 (by decide) ?_
              refine lv_goto (tgt := 81) hx hb dX3_isInOrder_77 (by decide) ?_
              exact W.zret (ty := .boolean) hx hb hr (by decide +kernel) (fun t ht hW => ⟨by rw [some_of h], ht⟩) (fun _ h => by cases h) dX3_isInOrder_81
            · have h := zz_neg c_47 h
              exact wQ_isInOrder_J50 C hr hlk hw _ _ h (lv_sub hl [0, 2] rfl)
        · have h := zz_neg c_19 h
          refine lv_iconst (v := (0 : Int32)) hx hb dX3_isInOrder_22 (by decide) ?_
          exact W.zret (ty := .boolean) hx hb hr (by decide +kernel) (fun t ht hW => ⟨by rw [some_of h], ht⟩) (fun _ h => by cases h) dX3_isInOrder_23
def fQ_orderFactor_J17 (N : Nat) (σ : CSt) (x2 : Int32) (y0 : Int32) : Option (Int32) := (if y0 = 0 then some (0 : Int32) else (if (σ.1 303) = (-1 : Int32) then some (0 : Int32) else (if x2 = 0 then some (3 : Int32) else some (0 : Int32))))
def fQ_orderFactor (N : Nat) (σ : CSt) (x1 : Int32) (x2 : Int32) : Option (Int32) := (if x1 = (((1 : Int32) <<< ((σ.1 300) &&& 31)) - (1 : Int32)) then fQ_orderFactor_J17 N σ x2 (1 : Int32) else fQ_orderFactor_J17 N σ x2 (0 : Int32))
set_option maxRecDepth 100000 in
set_option maxHeartbeats 4000000 in
theorem wQ_orderFactor_J17 {p : Program} {l : Launch} {e : Env} {s : State} {m : MethodId} {args : Array Value} {below : List Frame} {meth : Method} {c : Code} {D : va_G} {κ : Nat → ClassId} {ρ : Nat → Nat} {g : Gh} {σ : CSt} (C : CallFix p m c cX3_orderFactor 4 s args wsX3_orderFactor RX3) (hr : meth.sig.returnType = (some .int)) (hlk : meth.locks = false) (hw : RC D κ ρ g σ s s.heap) {N : Nat} {r : Int32} : ∀ (x2 : Int32) (y0 : Int32) (ls : Array Slot), fQ_orderFactor_J17 N σ x2 y0 = some r → lv_has ls 4 [(0, .ref (ρ 399)), (2, .int x2)] → W p l e ({ frames := 0, cells := 0, slots := 0, locals := 0 } : Room) s m args below meth c s.heap [] 0 0 (MQ below (PU (some (.int r))) args s 0 0 (fun _ => False)) (F0 m 17 ls [.int y0]) := by
  have hx := C.1
  have hb := C.2.1
  have hts := C.2.2.2.2
  have hown := C.2.2.2.1
  have k_15 := hts (.fieldLink RX3 15 "PlanCabinet$Question" "orderTable" "I") (by decide +kernel)
  have in_3 : ∀ w ∈ wsX30, w ∈ wsX3_orderFactor := by decide +kernel
  intro x2 y0 ls h hl
  unfold fQ_orderFactor_J17 at h
  refine lv_istore_n (lv' := [(3, .int y0), (0, .ref (ρ 399)), (2, .int x2)]) hx hb dX3_orderFactor_17 rfl hl (by decide) rfl (fun ls hl => ?_)
  refine lv_iload_n hx hb dX3_orderFactor_18 rfl (lv_at hl 0 rfl) ?_
  refine lv_if_eq (tgt := 38) hx hb dX3_orderFactor_19 (by decide) (fun c_19 => ?_) (fun c_19 => ?_)
  · have h := zz_pos c_19 h
    refine lv_iconst (v := (0 : Int32)) hx hb dX3_orderFactor_38 (by decide) ?_
    exact W.iret hx hb hr (fun t ht hW => ⟨by rw [some_of h], ht⟩) (fun _ h => by cases h) dX3_orderFactor_39
  · have h := zz_neg c_19 h
    refine lv_aload_n hx hb dX3_orderFactor_22 rfl (lv_at hl 1 rfl) ?_
    refine cG_303 C in_3 hw k_15 dX3_orderFactor_23 ?_
    refine lv_iconst (v := (-1 : Int32)) hx hb dX3_orderFactor_26 (by decide) ?_
    refine lv_icmp_eq (tgt := 38) hx hb dX3_orderFactor_27 (by decide) (fun c_27 => ?_) (fun c_27 => ?_)
    · have h := zz_pos c_27 h
      refine lv_iconst (v := (0 : Int32)) hx hb dX3_orderFactor_38 (by decide) ?_
      exact W.iret hx hb hr (fun t ht hW => ⟨by rw [some_of h], ht⟩) (fun _ h => by cases h) dX3_orderFactor_39
    · have h := zz_neg c_27 h
      refine lv_iload_n hx hb dX3_orderFactor_30 rfl (lv_at hl 2 rfl) ?_
      refine lv_if_ne (tgt := 38) hx hb dX3_orderFactor_31 (by decide) (fun c_31 => ?_) (fun c_31 => ?_)
      · have h := zz_neg c_31 h
        refine lv_iconst (v := (0 : Int32)) hx hb dX3_orderFactor_38 (by decide) ?_
        exact W.iret hx hb hr (fun t ht hW => ⟨by rw [some_of h], ht⟩) (fun _ h => by cases h) dX3_orderFactor_39
      · have h := zz_pos c_31 h
        refine lv_iconst (v := (3 : Int32)) hx hb dX3_orderFactor_34 (by decide) ?_
        refine lv_goto (tgt := 39) hx hb dX3_orderFactor_35 (by decide) ?_
        exact W.iret hx hb hr (fun t ht hW => ⟨by rw [some_of h], ht⟩) (fun _ h => by cases h) dX3_orderFactor_39
set_option maxRecDepth 100000 in
set_option maxHeartbeats 4000000 in
theorem cQ_orderFactor {l : Launch} {D : va_G} {κ : Nat → ClassId} {ρ : Nat → Nat} {g : Gh} {N : Nat} {σ : CSt} {x1 : Int32} {x2 : Int32} {r : Int32} (h : fQ_orderFactor N σ x1 x2 = some r) : Met l yX3_orderFactor wsX3_orderFactor ({ frames := 0, cells := 0, slots := 0, locals := 0 } : Room) (va_Pc [.ref (ρ 399), .int x1, .int x2] (PRC D κ ρ g σ)) (PU (some (.int r))) 0 0 (fun _ => False) := by
  refine cMetR (ret := (some .int)) (by decide) rfl rfl (Nat.le_of_ble_eq_true rfl) ?_
  intro p e s m below meth c ls C hr hlk hw hl
  have hl : lv_has ls 4 [(0, .ref (ρ 399)), (1, .int x1), (2, .int x2)] := hl
  unfold fQ_orderFactor at h
  have hx := C.1
  have hb := C.2.1
  have hts := C.2.2.2.2
  have hown := C.2.2.2.1
  have k_43 := hts (.fieldLink RX3 43 "PlanCabinet$Question" "tableCount" "I") (by decide +kernel)
  have in_3 : ∀ w ∈ wsX30, w ∈ wsX3_orderFactor := by decide +kernel
  refine lv_iload_n hx hb dX3_orderFactor_0 rfl (lv_at hl 1 rfl) ?_
  refine lv_iconst (v := (1 : Int32)) hx hb dX3_orderFactor_1 (by decide) ?_
  refine lv_aload_n hx hb dX3_orderFactor_2 rfl (lv_at hl 0 rfl) ?_
  refine cG_300 C in_3 hw k_43 dX3_orderFactor_3 ?_
  refine lv_ishl hx hb dX3_orderFactor_6 ?_
  refine lv_iconst (v := (1 : Int32)) hx hb dX3_orderFactor_7 (by decide) ?_
  refine lv_isub hx hb dX3_orderFactor_8 ?_
  refine lv_icmp_ne (tgt := 16) hx hb dX3_orderFactor_9 (by decide) (fun c_9 => ?_) (fun c_9 => ?_)
  · have h := zz_neg c_9 h
    refine lv_iconst (v := (0 : Int32)) hx hb dX3_orderFactor_16 (by decide) ?_
    exact wQ_orderFactor_J17 C hr hlk hw _ _ _ h (lv_sub hl [0, 2] rfl)
  · have h := zz_pos c_9 h
    refine lv_iconst (v := (1 : Int32)) hx hb dX3_orderFactor_12 (by decide) ?_
    refine lv_goto (tgt := 17) hx hb dX3_orderFactor_13 (by decide) ?_
    exact wQ_orderFactor_J17 C hr hlk hw _ _ _ h (lv_sub hl [0, 2] rfl)
def fQ_rowIn (N : Nat) (x0 : Int32) (x1 : Int32) : Option (Int32) := some ((x0 >>> (((3 : Int32) * x1) &&& 31)) &&& (7 : Int32))
set_option maxRecDepth 100000 in
set_option maxHeartbeats 4000000 in
theorem cQ_rowIn {l : Launch} {N : Nat}  {x0 : Int32} {x1 : Int32} {r : Int32} (h : fQ_rowIn N x0 x1 = some r) : Met l yX3_rowIn wsX3_rowIn ({ frames := 0, cells := 0, slots := 0, locals := 0 } : Room) (va_Pc [.int x0, .int x1] (fun _ => True)) (PU (some (.int r))) 0 0 (fun _ => False) := by
  refine sMet (ret := (some .int)) (by decide) rfl rfl (Nat.le_of_ble_eq_true rfl) ?_
  intro p e s m below meth c ls C hr hlk hl
  have hl : lv_has ls 2 [(0, .int x0), (1, .int x1)] := hl
  unfold fQ_rowIn at h
  have hx := C.1
  have hb := C.2.1
  have hts := C.2.2.2.2
  have hown := C.2.2.2.1
  refine lv_iload_n hx hb dX3_rowIn_0 rfl (lv_at hl 0 rfl) ?_
  refine lv_iconst (v := (3 : Int32)) hx hb dX3_rowIn_1 (by decide) ?_
  refine lv_iload_n hx hb dX3_rowIn_2 rfl (lv_at hl 1 rfl) ?_
  refine lv_imul hx hb dX3_rowIn_3 ?_
  refine lv_ishr hx hb dX3_rowIn_4 ?_
  refine lv_bipush (v := (7 : Int32)) hx hb dX3_rowIn_5 (by decide) ?_
  refine lv_iand hx hb dX3_rowIn_7 ?_
  exact W.iret hx hb hr (fun t ht hW => ⟨by rw [some_of h], ht⟩) (fun _ h => by cases h) dX3_rowIn_8
def fQ_isHeld (N : Nat) (σ : CSt) (x1 : Int32) (x2 : Int32) : Option (Int32) := (if x1 < 0 then some (0 : Int32) else (if x1 < (4 : Int32) then chk x1 4 ((fQ_rowIn N x2 (σ.2.2.1 307 x1.toNatClampNeg)).bind fun r_18 => chk x1 4 ((fQ_rowIn N x2 (σ.2.2.1 309 x1.toNatClampNeg)).bind fun r_29 => chk x1 4 (chk x1 4 ((fQ_field N σ (σ.2.2.1 307 x1.toNatClampNeg) r_18 (σ.2.2.1 308 x1.toNatClampNeg)).bind fun r_48 => chk x1 4 (chk x1 4 ((fQ_field N σ (σ.2.2.1 309 x1.toNatClampNeg) r_29 (σ.2.2.1 310 x1.toNatClampNeg)).bind fun r_66 => (if r_48 = r_66 then some (1 : Int32) else some (0 : Int32)))))))) else some (0 : Int32)))
set_option maxRecDepth 100000 in
set_option maxHeartbeats 4000000 in
theorem cQ_isHeld {l : Launch} {D : va_G} {κ : Nat → ClassId} {ρ : Nat → Nat} {g : Gh} {N : Nat} {σ : CSt} {x1 : Int32} {x2 : Int32} {r : Int32} (h : fQ_isHeld N σ x1 x2 = some r) : Met l yX3_isHeld wsX3_isHeld ({ frames := 1, cells := 0, slots := 0, locals := 23 } : Room) (va_Pc [.ref (ρ 399), .int x1, .int x2] (PRC D κ ρ g σ)) (PU (some (.int r))) 0 0 (fun _ => False) := by
  refine cMetR (ret := (some .boolean)) (by decide) rfl rfl (Nat.le_of_ble_eq_true rfl) ?_
  intro p e s m below meth c ls C hr hlk hw hl
  have hl : lv_has ls 5 [(0, .ref (ρ 399)), (1, .int x1), (2, .int x2)] := hl
  unfold fQ_isHeld at h
  have hx := C.1
  have hb := C.2.1
  have hts := C.2.2.2.2
  have hown := C.2.2.2.1
  have k_25 := hts (.fieldLink RX3 25 "PlanCabinet$Question" "lowTable" "[I") (by decide +kernel)
  have k_28 := hts (.fieldLink RX3 28 "PlanCabinet$Question" "lowColumn" "[I") (by decide +kernel)
  have k_31 := hts (.fieldLink RX3 31 "PlanCabinet$Question" "highTable" "[I") (by decide +kernel)
  have k_34 := hts (.fieldLink RX3 34 "PlanCabinet$Question" "highColumn" "[I") (by decide +kernel)
  have in_3 : ∀ w ∈ wsX30, w ∈ wsX3_isHeld := by decide +kernel
  refine lv_iload_n hx hb dX3_isHeld_0 rfl (lv_at hl 1 rfl) ?_
  refine lv_if_lt (tgt := 9) hx hb dX3_isHeld_1 (by decide) (fun c_1 => ?_) (fun c_1 => ?_)
  · have h := zz_pos c_1 h
    refine lv_iconst (v := (0 : Int32)) hx hb dX3_isHeld_9 (by decide) ?_
    exact W.zret (ty := .boolean) hx hb hr (by decide +kernel) (fun t ht hW => ⟨by rw [some_of h], ht⟩) (fun _ h => by cases h) dX3_isHeld_10
  · have h := zz_neg c_1 h
    refine lv_iload_n hx hb dX3_isHeld_4 rfl (lv_at hl 1 rfl) ?_
    refine lv_iconst (v := (4 : Int32)) hx hb dX3_isHeld_5 (by decide) ?_
    refine lv_icmp_lt (tgt := 11) hx hb dX3_isHeld_6 (by decide) (fun c_6 => ?_) (fun c_6 => ?_)
    · have h := zz_pos c_6 h
      refine lv_iload_n hx hb dX3_isHeld_11 rfl (lv_at hl 2 rfl) ?_
      refine lv_aload_n hx hb dX3_isHeld_12 rfl (lv_at hl 0 rfl) ?_
      refine cG_307 C in_3 hw k_25 dX3_isHeld_13 ?_
      refine lv_iload_n hx hb dX3_isHeld_16 rfl (lv_at hl 1 rfl) ?_
      obtain ⟨b_17, h⟩ := chk_of h
      refine cL_307 C hw b_17 dX3_isHeld_17 ?_
      obtain ⟨r_18, e_18, h⟩ := bnd_of h
      refine callP (W.runS (As := [.int x2, .int (σ.2.2.1 307 x1.toNatClampNeg)]) C (cQ_rowIn e_18) (cwS 2 hts gX3_isHeld_X3_rowIn rfl rfl rfl (by decide +kernel) ⟨by decide, by decide⟩) preT rfl rfl hl.1 rfl (lv_room (Nat.le_of_ble_eq_true rfl)) dX3_isHeld_18 ⟨Nat.zero_le _, Nat.zero_le _⟩) ?_
      refine lv_istore_n (lv' := [(3, .int r_18), (0, .ref (ρ 399)), (1, .int x1), (2, .int x2)]) hx hb dX3_isHeld_21 rfl hl (by decide) rfl (fun ls hl => ?_)
      refine lv_iload_n hx hb dX3_isHeld_22 rfl (lv_at hl 3 rfl) ?_
      refine lv_aload_n hx hb dX3_isHeld_23 rfl (lv_at hl 1 rfl) ?_
      refine cG_309 C in_3 hw k_31 dX3_isHeld_24 ?_
      refine lv_iload_n hx hb dX3_isHeld_27 rfl (lv_at hl 2 rfl) ?_
      obtain ⟨b_28, h⟩ := chk_of h
      refine cL_309 C hw b_28 dX3_isHeld_28 ?_
      obtain ⟨r_29, e_29, h⟩ := bnd_of h
      refine callP (W.runS (As := [.int x2, .int (σ.2.2.1 309 x1.toNatClampNeg)]) C (cQ_rowIn e_29) (cwS 2 hts gX3_isHeld_X3_rowIn rfl rfl rfl (by decide +kernel) ⟨by decide, by decide⟩) preT rfl rfl hl.1 rfl (lv_room (Nat.le_of_ble_eq_true rfl)) dX3_isHeld_29 ⟨Nat.zero_le _, Nat.zero_le _⟩) ?_
      refine lv_istore (lv' := [(4, .int r_29), (3, .int r_18), (0, .ref (ρ 399)), (1, .int x1), (2, .int x2)]) hx hb dX3_isHeld_32 hl (by decide) rfl (fun ls hl => ?_)
      refine lv_aload_n hx hb dX3_isHeld_34 rfl (lv_at hl 2 rfl) ?_
      refine lv_aload_n hx hb dX3_isHeld_35 rfl (lv_at hl 2 rfl) ?_
      refine cG_307 C in_3 hw k_25 dX3_isHeld_36 ?_
      refine lv_iload_n hx hb dX3_isHeld_39 rfl (lv_at hl 3 rfl) ?_
      obtain ⟨b_40, h⟩ := chk_of h
      refine cL_307 C hw b_40 dX3_isHeld_40 ?_
      refine lv_iload_n hx hb dX3_isHeld_41 rfl (lv_at hl 1 rfl) ?_
      refine lv_aload_n hx hb dX3_isHeld_42 rfl (lv_at hl 2 rfl) ?_
      refine cG_308 C in_3 hw k_28 dX3_isHeld_43 ?_
      refine lv_iload_n hx hb dX3_isHeld_46 rfl (lv_at hl 3 rfl) ?_
      obtain ⟨b_47, h⟩ := chk_of h
      refine cL_308 C hw b_47 dX3_isHeld_47 ?_
      obtain ⟨r_48, e_48, h⟩ := bnd_of h
      refine callP (W.runV (As := [.int (σ.2.2.1 307 x1.toNatClampNeg), .int r_18, .int (σ.2.2.1 308 x1.toNatClampNeg)]) C (cQ_field e_48) (cwV 3 hts gX3_isHeld_X3_field rfl rfl rfl (by decide +kernel) ⟨by decide, by decide⟩) (preR (recv_399 hw) hw) rfl rfl hl.1 rfl (lv_room (Nat.le_of_ble_eq_true rfl)) dX3_isHeld_48 ⟨Nat.zero_le _, Nat.zero_le _⟩) ?_
      refine lv_aload_n hx hb dX3_isHeld_51 rfl (lv_at hl 2 rfl) ?_
      refine lv_aload_n hx hb dX3_isHeld_52 rfl (lv_at hl 2 rfl) ?_
      refine cG_309 C in_3 hw k_31 dX3_isHeld_53 ?_
      refine lv_iload_n hx hb dX3_isHeld_56 rfl (lv_at hl 3 rfl) ?_
      obtain ⟨b_57, h⟩ := chk_of h
      refine cL_309 C hw b_57 dX3_isHeld_57 ?_
      refine lv_iload hx hb dX3_isHeld_58 (lv_at hl 0 rfl) ?_
      refine lv_aload_n hx hb dX3_isHeld_60 rfl (lv_at hl 2 rfl) ?_
      refine cG_310 C in_3 hw k_34 dX3_isHeld_61 ?_
      refine lv_iload_n hx hb dX3_isHeld_64 rfl (lv_at hl 3 rfl) ?_
      obtain ⟨b_65, h⟩ := chk_of h
      refine cL_310 C hw b_65 dX3_isHeld_65 ?_
      obtain ⟨r_66, e_66, h⟩ := bnd_of h
      refine callP (W.runV (As := [.int (σ.2.2.1 309 x1.toNatClampNeg), .int r_29, .int (σ.2.2.1 310 x1.toNatClampNeg)]) C (cQ_field e_66) (cwV 3 hts gX3_isHeld_X3_field rfl rfl rfl (by decide +kernel) ⟨by decide, by decide⟩) (preR (recv_399 hw) hw) rfl rfl hl.1 rfl (lv_room (Nat.le_of_ble_eq_true rfl)) dX3_isHeld_66 ⟨Nat.zero_le _, Nat.zero_le _⟩) ?_
      refine lv_icmp_ne (tgt := 76) hx hb dX3_isHeld_69 (by decide) (fun c_69 => ?_) (fun c_69 => ?_)
      · have h := zz_neg c_69 h
        refine lv_iconst (v := (0 : Int32)) hx hb dX3_isHeld_76 (by decide) ?_
        exact W.zret (ty := .boolean) hx hb hr (by decide +kernel) (fun t ht hW => ⟨by rw [some_of h], ht⟩) (fun _ h => by cases h) dX3_isHeld_77
      · have h := zz_pos c_69 h
        refine lv_iconst (v := (1 : Int32)) hx hb dX3_isHeld_72 (by decide) ?_
        refine lv_goto (tgt := 77) hx hb dX3_isHeld_73 (by decide) ?_
        exact W.zret (ty := .boolean) hx hb hr (by decide +kernel) (fun t ht hW => ⟨by rw [some_of h], ht⟩) (fun _ h => by cases h) dX3_isHeld_77
    · have h := zz_neg c_6 h
      refine lv_iconst (v := (0 : Int32)) hx hb dX3_isHeld_9 (by decide) ?_
      exact W.zret (ty := .boolean) hx hb hr (by decide +kernel) (fun t ht hW => ⟨by rw [some_of h], ht⟩) (fun _ h => by cases h) dX3_isHeld_10
def fQ_asPart (N : Nat) (x0 : Int32) (x1 : Int32) : Option (Int32) := some (x0 <<< (((3 : Int32) * x1) &&& 31))
set_option maxRecDepth 100000 in
set_option maxHeartbeats 4000000 in
theorem cQ_asPart {l : Launch} {N : Nat}  {x0 : Int32} {x1 : Int32} {r : Int32} (h : fQ_asPart N x0 x1 = some r) : Met l yX3_asPart wsX3_asPart ({ frames := 0, cells := 0, slots := 0, locals := 0 } : Room) (va_Pc [.int x0, .int x1] (fun _ => True)) (PU (some (.int r))) 0 0 (fun _ => False) := by
  refine sMet (ret := (some .int)) (by decide) rfl rfl (Nat.le_of_ble_eq_true rfl) ?_
  intro p e s m below meth c ls C hr hlk hl
  have hl : lv_has ls 2 [(0, .int x0), (1, .int x1)] := hl
  unfold fQ_asPart at h
  have hx := C.1
  have hb := C.2.1
  have hts := C.2.2.2.2
  have hown := C.2.2.2.1
  refine lv_iload_n hx hb dX3_asPart_0 rfl (lv_at hl 0 rfl) ?_
  refine lv_iconst (v := (3 : Int32)) hx hb dX3_asPart_1 (by decide) ?_
  refine lv_iload_n hx hb dX3_asPart_2 rfl (lv_at hl 1 rfl) ?_
  refine lv_imul hx hb dX3_asPart_3 ?_
  refine lv_ishl hx hb dX3_asPart_4 ?_
  exact W.iret hx hb hr (fun t ht hW => ⟨by rw [some_of h], ht⟩) (fun _ h => by cases h) dX3_asPart_5
def fQ_matches_L29 (N : Nat) (σ : CSt) (K92 : Int32 → Int32 → Int32 → Option (Int32)) : Nat → Int32 → Int32 → Int32 → Int32 → Option (Int32)
  | 0, _, _, _, _ => none
  | n + 1, x1, x2, x3, x4 => chk x1 4 ((fQ_rowsOf N σ (σ.2.2.1 309 x1.toNatClampNeg)).bind fun r_38 => (if r_38 ≤ x4 then K92 x1 x2 x3 else chk x1 4 ((fQ_asPart N x3 (σ.2.2.1 307 x1.toNatClampNeg)).bind fun r_51 => chk x1 4 ((fQ_asPart N x4 (σ.2.2.1 309 x1.toNatClampNeg)).bind fun r_62 => (fQ_isHeld N σ x1 (r_51 ||| r_62)).bind fun r_73 => (if r_73 = 0 then fQ_matches_L29 N σ K92 n x1 (x2 + (0 : Int32)) x3 (x4 + 1) else fQ_matches_L29 N σ K92 n x1 (x2 + (1 : Int32)) x3 (x4 + 1))))))
def fQ_matches_L12 (N : Nat) (σ : CSt) : Nat → Int32 → Int32 → Int32 → Option (Int32)
  | 0, _, _, _ => none
  | n + 1, x1, x2, x3 => chk x1 4 ((fQ_rowsOf N σ (σ.2.2.1 307 x1.toNatClampNeg)).bind fun r_20 => (if r_20 ≤ x3 then some x2 else fQ_matches_L29 N σ (fun (x1 : Int32) (x2 : Int32) (x3 : Int32) => fQ_matches_L12 N σ n x1 x2 (x3 + 1)) N x1 x2 x3 (0 : Int32)))
def fQ_matches (N : Nat) (σ : CSt) (x1 : Int32) : Option (Int32) := (fQ_isPairing N σ x1).bind fun r_4 => (if r_4 = 0 then some (0 : Int32) else fQ_matches_L12 N σ N x1 (0 : Int32) (0 : Int32))
set_option maxRecDepth 100000 in
set_option maxHeartbeats 4000000 in
theorem wQ_matches_L29 {p : Program} {l : Launch} {e : Env} {s : State} {m : MethodId} {args : Array Value} {below : List Frame} {meth : Method} {c : Code} {D : va_G} {κ : Nat → ClassId} {ρ : Nat → Nat} {g : Gh} {σ : CSt} (C : CallFix p m c cX3_matches 6 s args wsX3_matches RX3) (hr : meth.sig.returnType = (some .int)) (hlk : meth.locks = false) (hw : RC D κ ρ g σ s s.heap) {N : Nat} {r : Int32} {K92 : Int32 → Int32 → Int32 → Option (Int32)} : ∀ (n : Nat) (x1 : Int32) (x2 : Int32) (x3 : Int32) (x4 : Int32) (ls : Array Slot), fQ_matches_L29 N σ K92 n x1 x2 x3 x4 = some r → lv_has ls 6 [(0, .ref (ρ 399)), (1, .int x1), (2, .int x2), (3, .int x3), (4, .int x4)] → (∀ (x1 : Int32) (x2 : Int32) (x3 : Int32) (ls : Array Slot), K92 x1 x2 x3 = some r → lv_has ls 6 [(0, .ref (ρ 399)), (1, .int x1), (2, .int x2), (3, .int x3)] → W p l e ({ frames := 2, cells := 0, slots := 0, locals := 47 } : Room) s m args below meth c s.heap [] 0 0 (MQ below (PU (some (.int r))) args s 0 0 (fun _ => False)) (F0 m 92 ls [])) → W p l e ({ frames := 2, cells := 0, slots := 0, locals := 47 } : Room) s m args below meth c s.heap [] 0 0 (MQ below (PU (some (.int r))) args s 0 0 (fun _ => False)) (F0 m 29 ls []) := by
  have hx := C.1
  have hb := C.2.1
  have hts := C.2.2.2.2
  have hown := C.2.2.2.1
  have k_25 := hts (.fieldLink RX3 25 "PlanCabinet$Question" "lowTable" "[I") (by decide +kernel)
  have k_31 := hts (.fieldLink RX3 31 "PlanCabinet$Question" "highTable" "[I") (by decide +kernel)
  have in_3 : ∀ w ∈ wsX30, w ∈ wsX3_matches := by decide +kernel
  intro n
  induction n with
  | zero =>
    intro x1 x2 x3 x4 ls h hl hK92
    rw [fQ_matches_L29] at h
    cases h
  | succ n ih =>
    intro x1 x2 x3 x4 ls h hl hK92
    rw [fQ_matches_L29] at h
    refine lv_iload hx hb dX3_matches_29 (lv_at hl 4 rfl) ?_
    refine lv_aload_n hx hb dX3_matches_31 rfl (lv_at hl 0 rfl) ?_
    refine lv_aload_n hx hb dX3_matches_32 rfl (lv_at hl 0 rfl) ?_
    refine cG_309 C in_3 hw k_31 dX3_matches_33 ?_
    refine lv_iload_n hx hb dX3_matches_36 rfl (lv_at hl 1 rfl) ?_
    obtain ⟨b_37, h⟩ := chk_of h
    refine cL_309 C hw b_37 dX3_matches_37 ?_
    obtain ⟨r_38, e_38, h⟩ := bnd_of h
    refine callP (W.runV (As := [.int (σ.2.2.1 309 x1.toNatClampNeg)]) C (cQ_rowsOf e_38) (cwV 1 hts gX3_matches_X3_rowsOf rfl rfl rfl (by decide +kernel) ⟨by decide, by decide⟩) (preR (recv_399 hw) hw) rfl rfl hl.1 rfl (lv_room (Nat.le_of_ble_eq_true rfl)) dX3_matches_38 ⟨Nat.zero_le _, Nat.zero_le _⟩) ?_
    refine lv_icmp_ge (tgt := 92) hx hb dX3_matches_41 (by decide) (fun c_41 => ?_) (fun c_41 => ?_)
    · have h := zz_pos c_41 h
      exact hK92 _ _ _ _ h (lv_sub hl [0, 1, 2, 3] rfl)
    · have h := zz_neg c_41 h
      refine lv_iload_n hx hb dX3_matches_44 rfl (lv_at hl 3 rfl) ?_
      refine lv_aload_n hx hb dX3_matches_45 rfl (lv_at hl 0 rfl) ?_
      refine cG_307 C in_3 hw k_25 dX3_matches_46 ?_
      refine lv_iload_n hx hb dX3_matches_49 rfl (lv_at hl 1 rfl) ?_
      obtain ⟨b_50, h⟩ := chk_of h
      refine cL_307 C hw b_50 dX3_matches_50 ?_
      obtain ⟨r_51, e_51, h⟩ := bnd_of h
      refine callP (W.runS (As := [.int x3, .int (σ.2.2.1 307 x1.toNatClampNeg)]) C (cQ_asPart e_51) (cwS 2 hts gX3_matches_X3_asPart rfl rfl rfl (by decide +kernel) ⟨by decide, by decide⟩) preT rfl rfl hl.1 rfl (lv_room (Nat.le_of_ble_eq_true rfl)) dX3_matches_51 ⟨Nat.zero_le _, Nat.zero_le _⟩) ?_
      refine lv_iload hx hb dX3_matches_54 (lv_at hl 4 rfl) ?_
      refine lv_aload_n hx hb dX3_matches_56 rfl (lv_at hl 0 rfl) ?_
      refine cG_309 C in_3 hw k_31 dX3_matches_57 ?_
      refine lv_iload_n hx hb dX3_matches_60 rfl (lv_at hl 1 rfl) ?_
      obtain ⟨b_61, h⟩ := chk_of h
      refine cL_309 C hw b_61 dX3_matches_61 ?_
      obtain ⟨r_62, e_62, h⟩ := bnd_of h
      refine callP (W.runS (As := [.int x4, .int (σ.2.2.1 309 x1.toNatClampNeg)]) C (cQ_asPart e_62) (cwS 2 hts gX3_matches_X3_asPart rfl rfl rfl (by decide +kernel) ⟨by decide, by decide⟩) preT rfl rfl hl.1 rfl (lv_room (Nat.le_of_ble_eq_true rfl)) dX3_matches_62 ⟨Nat.zero_le _, Nat.zero_le _⟩) ?_
      refine lv_ior hx hb dX3_matches_65 ?_
      refine lv_istore (lv' := [(5, .int (r_51 ||| r_62)), (0, .ref (ρ 399)), (1, .int x1), (2, .int x2), (3, .int x3), (4, .int x4)]) hx hb dX3_matches_66 hl (by decide) rfl (fun ls hl => ?_)
      refine lv_iload_n hx hb dX3_matches_68 rfl (lv_at hl 3 rfl) ?_
      refine lv_aload_n hx hb dX3_matches_69 rfl (lv_at hl 1 rfl) ?_
      refine lv_iload_n hx hb dX3_matches_70 rfl (lv_at hl 2 rfl) ?_
      refine lv_iload hx hb dX3_matches_71 (lv_at hl 0 rfl) ?_
      obtain ⟨r_73, e_73, h⟩ := bnd_of h
      refine callP (W.runV (As := [.int x1, .int (r_51 ||| r_62)]) C (cQ_isHeld e_73) (cwV 2 hts gX3_matches_X3_isHeld rfl rfl rfl (by decide +kernel) ⟨by decide, by decide⟩) (preR (recv_399 hw) hw) rfl rfl hl.1 rfl (lv_room (Nat.le_of_ble_eq_true rfl)) dX3_matches_73 ⟨Nat.zero_le _, Nat.zero_le _⟩) ?_
      refine lv_if_eq (tgt := 83) hx hb dX3_matches_76 (by decide) (fun c_76 => ?_) (fun c_76 => ?_)
      · have h := zz_pos c_76 h
        refine lv_iconst (v := (0 : Int32)) hx hb dX3_matches_83 (by decide) ?_
        refine lv_iadd hx hb dX3_matches_84 ?_
        refine lv_istore_n (lv' := [(2, .int (x2 + (0 : Int32))), (5, .int (r_51 ||| r_62)), (0, .ref (ρ 399)), (1, .int x1), (3, .int x3), (4, .int x4)]) hx hb dX3_matches_85 rfl hl (by decide) rfl (fun ls hl => ?_)
        refine lv_iinc (v := (x4 + 1)) (lv' := [(4, .int (x4 + 1)), (2, .int (x2 + (0 : Int32))), (5, .int (r_51 ||| r_62)), (0, .ref (ρ 399)), (1, .int x1), (3, .int x3)]) hx hb dX3_matches_86 hl (k := 5) rfl rfl (by decide) rfl (fun ls hl => ?_)
        refine lv_goto (tgt := 29) hx hb dX3_matches_89 (by decide) ?_
        exact ih _ _ _ _ _ h (lv_sub hl [3, 4, 1, 5, 0] rfl) hK92
      · have h := zz_neg c_76 h
        refine lv_iconst (v := (1 : Int32)) hx hb dX3_matches_79 (by decide) ?_
        refine lv_goto (tgt := 84) hx hb dX3_matches_80 (by decide) ?_
        refine lv_iadd hx hb dX3_matches_84 ?_
        refine lv_istore_n (lv' := [(2, .int (x2 + (1 : Int32))), (5, .int (r_51 ||| r_62)), (0, .ref (ρ 399)), (1, .int x1), (3, .int x3), (4, .int x4)]) hx hb dX3_matches_85 rfl hl (by decide) rfl (fun ls hl => ?_)
        refine lv_iinc (v := (x4 + 1)) (lv' := [(4, .int (x4 + 1)), (2, .int (x2 + (1 : Int32))), (5, .int (r_51 ||| r_62)), (0, .ref (ρ 399)), (1, .int x1), (3, .int x3)]) hx hb dX3_matches_86 hl (k := 5) rfl rfl (by decide) rfl (fun ls hl => ?_)
        refine lv_goto (tgt := 29) hx hb dX3_matches_89 (by decide) ?_
        exact ih _ _ _ _ _ h (lv_sub hl [3, 4, 1, 5, 0] rfl) hK92
set_option maxRecDepth 100000 in
set_option maxHeartbeats 4000000 in
theorem wQ_matches_L12 {p : Program} {l : Launch} {e : Env} {s : State} {m : MethodId} {args : Array Value} {below : List Frame} {meth : Method} {c : Code} {D : va_G} {κ : Nat → ClassId} {ρ : Nat → Nat} {g : Gh} {σ : CSt} (C : CallFix p m c cX3_matches 6 s args wsX3_matches RX3) (hr : meth.sig.returnType = (some .int)) (hlk : meth.locks = false) (hw : RC D κ ρ g σ s s.heap) {N : Nat} {r : Int32} : ∀ (n : Nat) (x1 : Int32) (x2 : Int32) (x3 : Int32) (ls : Array Slot), fQ_matches_L12 N σ n x1 x2 x3 = some r → lv_has ls 6 [(0, .ref (ρ 399)), (1, .int x1), (2, .int x2), (3, .int x3)] → W p l e ({ frames := 2, cells := 0, slots := 0, locals := 47 } : Room) s m args below meth c s.heap [] 0 0 (MQ below (PU (some (.int r))) args s 0 0 (fun _ => False)) (F0 m 12 ls []) := by
  have hx := C.1
  have hb := C.2.1
  have hts := C.2.2.2.2
  have hown := C.2.2.2.1
  have k_25 := hts (.fieldLink RX3 25 "PlanCabinet$Question" "lowTable" "[I") (by decide +kernel)
  have in_3 : ∀ w ∈ wsX30, w ∈ wsX3_matches := by decide +kernel
  intro n
  induction n with
  | zero =>
    intro x1 x2 x3 ls h hl
    rw [fQ_matches_L12] at h
    cases h
  | succ n ih =>
    intro x1 x2 x3 ls h hl
    rw [fQ_matches_L12] at h
    refine lv_iload_n hx hb dX3_matches_12 rfl (lv_at hl 3 rfl) ?_
    refine lv_aload_n hx hb dX3_matches_13 rfl (lv_at hl 0 rfl) ?_
    refine lv_aload_n hx hb dX3_matches_14 rfl (lv_at hl 0 rfl) ?_
    refine cG_307 C in_3 hw k_25 dX3_matches_15 ?_
    refine lv_iload_n hx hb dX3_matches_18 rfl (lv_at hl 1 rfl) ?_
    obtain ⟨b_19, h⟩ := chk_of h
    refine cL_307 C hw b_19 dX3_matches_19 ?_
    obtain ⟨r_20, e_20, h⟩ := bnd_of h
    refine callP (W.runV (As := [.int (σ.2.2.1 307 x1.toNatClampNeg)]) C (cQ_rowsOf e_20) (cwV 1 hts gX3_matches_X3_rowsOf rfl rfl rfl (by decide +kernel) ⟨by decide, by decide⟩) (preR (recv_399 hw) hw) rfl rfl hl.1 rfl (lv_room (Nat.le_of_ble_eq_true rfl)) dX3_matches_20 ⟨Nat.zero_le _, Nat.zero_le _⟩) ?_
    refine lv_icmp_ge (tgt := 98) hx hb dX3_matches_23 (by decide) (fun c_23 => ?_) (fun c_23 => ?_)
    · have h := zz_pos c_23 h
      refine lv_iload_n hx hb dX3_matches_98 rfl (lv_at hl 2 rfl) ?_
      exact W.iret hx hb hr (fun t ht hW => ⟨by rw [some_of h], ht⟩) (fun _ h => by cases h) dX3_matches_99
    · have h := zz_neg c_23 h
      refine lv_iconst (v := (0 : Int32)) hx hb dX3_matches_26 (by decide) ?_
      refine lv_istore (lv' := [(4, .int (0 : Int32)), (0, .ref (ρ 399)), (1, .int x1), (2, .int x2), (3, .int x3)]) hx hb dX3_matches_27 hl (by decide) rfl (fun ls hl => ?_)
      refine wQ_matches_L29 C hr hlk hw _ _ _ _ _ _ h (lv_sub hl [1, 2, 3, 4, 0] rfl) ?_
      intro x1 x2 x3 ls h hl
      refine lv_iinc (v := (x3 + 1)) (lv' := [(3, .int (x3 + 1)), (0, .ref (ρ 399)), (1, .int x1), (2, .int x2)]) hx hb dX3_matches_92 hl (k := 3) rfl rfl (by decide) rfl (fun ls hl => ?_)
      refine lv_goto (tgt := 12) hx hb dX3_matches_95 (by decide) ?_
      exact ih _ _ _ _ h (lv_sub hl [1, 2, 3, 0] rfl)
set_option maxRecDepth 100000 in
set_option maxHeartbeats 4000000 in
theorem cQ_matches {l : Launch} {D : va_G} {κ : Nat → ClassId} {ρ : Nat → Nat} {g : Gh} {N : Nat} {σ : CSt} {x1 : Int32} {r : Int32} (h : fQ_matches N σ x1 = some r) : Met l yX3_matches wsX3_matches ({ frames := 2, cells := 0, slots := 0, locals := 47 } : Room) (va_Pc [.ref (ρ 399), .int x1] (PRC D κ ρ g σ)) (PU (some (.int r))) 0 0 (fun _ => False) := by
  refine cMetR (ret := (some .int)) (by decide) rfl rfl (Nat.le_of_ble_eq_true rfl) ?_
  intro p e s m below meth c ls C hr hlk hw hl
  have hl : lv_has ls 6 [(0, .ref (ρ 399)), (1, .int x1)] := hl
  unfold fQ_matches at h
  have hx := C.1
  have hb := C.2.1
  have hts := C.2.2.2.2
  have hown := C.2.2.2.1
  refine lv_iconst (v := (0 : Int32)) hx hb dX3_matches_0 (by decide) ?_
  refine lv_istore_n (lv' := [(2, .int (0 : Int32)), (0, .ref (ρ 399)), (1, .int x1)]) hx hb dX3_matches_1 rfl hl (by decide) rfl (fun ls hl => ?_)
  refine lv_aload_n hx hb dX3_matches_2 rfl (lv_at hl 1 rfl) ?_
  refine lv_iload_n hx hb dX3_matches_3 rfl (lv_at hl 2 rfl) ?_
  obtain ⟨r_4, e_4, h⟩ := bnd_of h
  refine callP (W.runV (As := [.int x1]) C (cQ_isPairing e_4) (cwV 1 hts gX3_matches_X3_isPairing rfl rfl rfl (by decide +kernel) ⟨by decide, by decide⟩) (preR (recv_399 hw) hw) rfl rfl hl.1 rfl (lv_room (Nat.le_of_ble_eq_true rfl)) dX3_matches_4 ⟨Nat.zero_le _, Nat.zero_le _⟩) ?_
  refine lv_if_eq (tgt := 98) hx hb dX3_matches_7 (by decide) (fun c_7 => ?_) (fun c_7 => ?_)
  · have h := zz_pos c_7 h
    refine lv_iload_n hx hb dX3_matches_98 rfl (lv_at hl 0 rfl) ?_
    exact W.iret hx hb hr (fun t ht hW => ⟨by rw [some_of h], ht⟩) (fun _ h => by cases h) dX3_matches_99
  · have h := zz_neg c_7 h
    refine lv_iconst (v := (0 : Int32)) hx hb dX3_matches_10 (by decide) ?_
    refine lv_istore_n (lv' := [(3, .int (0 : Int32)), (2, .int (0 : Int32)), (0, .ref (ρ 399)), (1, .int x1)]) hx hb dX3_matches_11 rfl hl (by decide) rfl (fun ls hl => ?_)
    exact wQ_matches_L12 C hr hlk hw _ _ _ _ _ h (lv_sub hl [2, 3, 1, 0] rfl)
