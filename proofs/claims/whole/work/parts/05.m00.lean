/-! the reference: isTable, isColumn, open, isBetween, between, all, isWhole, table, row, pair, order, clear, size, joining, bits, digits, shifted -/
def fM_isTable (N : Nat) (σ : MSt) (x1 : Int32) : Option (Int32) := (if x1 < 0 then some (0 : Int32) else (if (σ.1 0) ≤ x1 then some (0 : Int32) else some (1 : Int32)))
set_option maxRecDepth 100000 in
set_option maxHeartbeats 4000000 in
theorem cM_isTable {l : Launch} {D : va_G} {κ : Nat → ClassId} {ρ : Nat → Nat} {N : Nat} {σ : MSt} {x1 : Int32} {r : Int32} (h : fM_isTable N σ x1 = some r) : Met l yX7_isTable wsX7_isTable ({ frames := 0, cells := 0, slots := 0, locals := 0 } : Room) (va_Pc [.ref (ρ 40), .int x1] (PR D κ ρ σ)) (PU (some (.int r))) 0 0 (fun _ => False) := by
  refine mMetR (ret := (some .boolean)) (by decide) rfl rfl (Nat.le_of_ble_eq_true rfl) ?_
  intro p e s m below meth c ls C hr hlk hP hl
  have hl : lv_has ls 2 [(0, .ref (ρ 40)), (1, .int x1)] := hl
  unfold fM_isTable at h
  have hx := C.1.1
  have hb := C.1.2.1
  have hts := C.1.2.2.2.2
  have hown := C.1.2.2.2.1
  have k_7 := hts (.fieldLink RX7 7 "PlanCabinetModel" "tables" "I") (by decide +kernel)
  have in_7 : ∀ w ∈ wsX70, w ∈ wsX7_isTable := by decide +kernel
  refine lv_iload_n hx hb dX7_isTable_0 rfl (lv_at hl 1 rfl) ?_
  refine lv_if_lt (tgt := 16) hx hb dX7_isTable_1 (by decide) (fun c_1 => ?_) (fun c_1 => ?_)
  · have h := zz_pos c_1 h
    refine lv_iconst (v := (0 : Int32)) hx hb dX7_isTable_16 (by decide) ?_
    exact W.zret (ty := .boolean) hx hb hr (by decide +kernel) (fun t ht hW => ⟨by rw [some_of h], ht⟩) (fun _ h => by cases h) dX7_isTable_17
  · have h := zz_neg c_1 h
    refine lv_iload_n hx hb dX7_isTable_4 rfl (lv_at hl 1 rfl) ?_
    refine lv_aload_n hx hb dX7_isTable_5 rfl (lv_at hl 0 rfl) ?_
    refine mG_0 C in_7 hP k_7 dX7_isTable_6 ?_
    refine lv_icmp_ge (tgt := 16) hx hb dX7_isTable_9 (by decide) (fun c_9 => ?_) (fun c_9 => ?_)
    · have h := zz_pos c_9 h
      refine lv_iconst (v := (0 : Int32)) hx hb dX7_isTable_16 (by decide) ?_
      exact W.zret (ty := .boolean) hx hb hr (by decide +kernel) (fun t ht hW => ⟨by rw [some_of h], ht⟩) (fun _ h => by cases h) dX7_isTable_17
    · have h := zz_neg c_9 h
      refine lv_iconst (v := (1 : Int32)) hx hb dX7_isTable_12 (by decide) ?_
      refine lv_goto (tgt := 17) hx hb dX7_isTable_13 (by decide) ?_
      exact W.zret (ty := .boolean) hx hb hr (by decide +kernel) (fun t ht hW => ⟨by rw [some_of h], ht⟩) (fun _ h => by cases h) dX7_isTable_17
def fM_isColumn (N : Nat) (σ : MSt) (x1 : Int32) : Option (Int32) := (if x1 < 0 then some (0 : Int32) else (if (2 : Int32) < x1 then some (0 : Int32) else some (1 : Int32)))
set_option maxRecDepth 100000 in
set_option maxHeartbeats 4000000 in
theorem cM_isColumn {l : Launch} {D : va_G} {κ : Nat → ClassId} {ρ : Nat → Nat} {N : Nat} {σ : MSt} {x1 : Int32} {r : Int32} (h : fM_isColumn N σ x1 = some r) : Met l yX7_isColumn wsX7_isColumn ({ frames := 0, cells := 0, slots := 0, locals := 0 } : Room) (va_Pc [.ref (ρ 40), .int x1] (PR D κ ρ σ)) (PU (some (.int r))) 0 0 (fun _ => False) := by
  refine mMetR (ret := (some .boolean)) (by decide) rfl rfl (Nat.le_of_ble_eq_true rfl) ?_
  intro p e s m below meth c ls C hr hlk hP hl
  have hl : lv_has ls 2 [(0, .ref (ρ 40)), (1, .int x1)] := hl
  unfold fM_isColumn at h
  have hx := C.1.1
  have hb := C.1.2.1
  have hts := C.1.2.2.2.2
  have hown := C.1.2.2.2.1
  refine lv_iload_n hx hb dX7_isColumn_0 rfl (lv_at hl 1 rfl) ?_
  refine lv_if_lt (tgt := 13) hx hb dX7_isColumn_1 (by decide) (fun c_1 => ?_) (fun c_1 => ?_)
  · have h := zz_pos c_1 h
    refine lv_iconst (v := (0 : Int32)) hx hb dX7_isColumn_13 (by decide) ?_
    exact W.zret (ty := .boolean) hx hb hr (by decide +kernel) (fun t ht hW => ⟨by rw [some_of h], ht⟩) (fun _ h => by cases h) dX7_isColumn_14
  · have h := zz_neg c_1 h
    refine lv_iload_n hx hb dX7_isColumn_4 rfl (lv_at hl 1 rfl) ?_
    refine lv_iconst (v := (2 : Int32)) hx hb dX7_isColumn_5 (by decide) ?_
    refine lv_icmp_gt (tgt := 13) hx hb dX7_isColumn_6 (by decide) (fun c_6 => ?_) (fun c_6 => ?_)
    · have h := zz_pos c_6 h
      refine lv_iconst (v := (0 : Int32)) hx hb dX7_isColumn_13 (by decide) ?_
      exact W.zret (ty := .boolean) hx hb hr (by decide +kernel) (fun t ht hW => ⟨by rw [some_of h], ht⟩) (fun _ h => by cases h) dX7_isColumn_14
    · have h := zz_neg c_6 h
      refine lv_iconst (v := (1 : Int32)) hx hb dX7_isColumn_9 (by decide) ?_
      refine lv_goto (tgt := 14) hx hb dX7_isColumn_10 (by decide) ?_
      exact W.zret (ty := .boolean) hx hb hr (by decide +kernel) (fun t ht hW => ⟨by rw [some_of h], ht⟩) (fun _ h => by cases h) dX7_isColumn_14
def fM_open_L2 (N : Nat) (σ : MSt) : Nat → Int32 → Option (Int32)
  | 0, _ => none
  | n + 1, x1 => (if (σ.1 1) ≤ x1 then some (-1 : Int32) else chk x1 4 ((if (σ.2.2.1 10 x1.toNatClampNeg) = 0 then some x1 else fM_open_L2 N σ n (x1 + 1))))
def fM_open (N : Nat) (σ : MSt) : Option (Int32) := fM_open_L2 N σ N (0 : Int32)
set_option maxRecDepth 100000 in
set_option maxHeartbeats 4000000 in
theorem wM_open_L2 {p : Program} {l : Launch} {e : Env} {s : State} {m : MethodId} {args : Array Value} {below : List Frame} {meth : Method} {c : Code} {D : va_G} {κ : Nat → ClassId} {ρ : Nat → Nat} {σ : MSt} (C : MC p m c cX7_open 2 s args wsX7_open D κ) (hr : meth.sig.returnType = (some .int)) (hlk : meth.locks = false) (hP : va_P D vwCl (cellsM κ ρ σ) s.heap) {N : Nat} {r : Int32} : ∀ (n : Nat) (x1 : Int32) (ls : Array Slot), fM_open_L2 N σ n x1 = some r → lv_has ls 2 [(0, .ref (ρ 40)), (1, .int x1)] → W p l e ({ frames := 0, cells := 0, slots := 0, locals := 0 } : Room) s m args below meth c s.heap [] 0 0 (MQ below (PU (some (.int r))) args s 0 0 (fun _ => False)) (F0 m 2 ls []) := by
  have hx := C.1.1
  have hb := C.1.2.1
  have hts := C.1.2.2.2.2
  have hown := C.1.2.2.2.1
  have k_13 := hts (.fieldLink RX7 13 "PlanCabinetModel" "pairings" "I") (by decide +kernel)
  have k_41 := hts (.fieldLink RX7 41 "PlanCabinetModel" "share" "[I") (by decide +kernel)
  have in_7 : ∀ w ∈ wsX70, w ∈ wsX7_open := by decide +kernel
  intro n
  induction n with
  | zero =>
    intro x1 ls h hl
    rw [fM_open_L2] at h
    cases h
  | succ n ih =>
    intro x1 ls h hl
    rw [fM_open_L2] at h
    refine lv_iload_n hx hb dX7_open_2 rfl (lv_at hl 1 rfl) ?_
    refine lv_aload_n hx hb dX7_open_3 rfl (lv_at hl 0 rfl) ?_
    refine mG_1 C in_7 hP k_13 dX7_open_4 ?_
    refine lv_icmp_ge (tgt := 27) hx hb dX7_open_7 (by decide) (fun c_7 => ?_) (fun c_7 => ?_)
    · have h := zz_pos c_7 h
      refine lv_iconst (v := (-1 : Int32)) hx hb dX7_open_27 (by decide) ?_
      exact W.iret hx hb hr (fun t ht hW => ⟨by rw [some_of h], ht⟩) (fun _ h => by cases h) dX7_open_28
    · have h := zz_neg c_7 h
      refine lv_aload_n hx hb dX7_open_10 rfl (lv_at hl 0 rfl) ?_
      refine mG_10 C in_7 hP k_41 dX7_open_11 ?_
      refine lv_iload_n hx hb dX7_open_14 rfl (lv_at hl 1 rfl) ?_
      obtain ⟨b_15, h⟩ := chk_of h
      refine mL_10 C hP b_15 dX7_open_15 ?_
      refine lv_if_ne (tgt := 21) hx hb dX7_open_16 (by decide) (fun c_16 => ?_) (fun c_16 => ?_)
      · have h := zz_neg c_16 h
        refine lv_iinc (v := (x1 + 1)) (lv' := [(1, .int (x1 + 1)), (0, .ref (ρ 40))]) hx hb dX7_open_21 hl (k := 1) rfl rfl (by decide) rfl (fun ls hl => ?_)
        refine lv_goto (tgt := 2) hx hb dX7_open_24 (by decide) ?_
        exact ih _ _ h (lv_sub hl [1, 0] rfl)
      · have h := zz_pos c_16 h
        refine lv_iload_n hx hb dX7_open_19 rfl (lv_at hl 1 rfl) ?_
        exact W.iret hx hb hr (fun t ht hW => ⟨by rw [some_of h], ht⟩) (fun _ h => by cases h) dX7_open_20
set_option maxRecDepth 100000 in
set_option maxHeartbeats 4000000 in
theorem cM_open {l : Launch} {D : va_G} {κ : Nat → ClassId} {ρ : Nat → Nat} {N : Nat} {σ : MSt} {r : Int32} (h : fM_open N σ = some r) : Met l yX7_open wsX7_open ({ frames := 0, cells := 0, slots := 0, locals := 0 } : Room) (va_Pc [.ref (ρ 40)] (PR D κ ρ σ)) (PU (some (.int r))) 0 0 (fun _ => False) := by
  refine mMetR (ret := (some .int)) (by decide) rfl rfl (Nat.le_of_ble_eq_true rfl) ?_
  intro p e s m below meth c ls C hr hlk hP hl
  have hl : lv_has ls 2 [(0, .ref (ρ 40))] := hl
  unfold fM_open at h
  have hx := C.1.1
  have hb := C.1.2.1
  have hts := C.1.2.2.2.2
  have hown := C.1.2.2.2.1
  refine lv_iconst (v := (0 : Int32)) hx hb dX7_open_0 (by decide) ?_
  refine lv_istore_n (lv' := [(1, .int (0 : Int32)), (0, .ref (ρ 40))]) hx hb dX7_open_1 rfl hl (by decide) rfl (fun ls hl => ?_)
  exact wM_open_L2 C hr hlk hP _ _ _ h (lv_sub hl [1, 0] rfl)
def fM_isBetween_J34 (N : Nat) (σ : MSt) (x2 : Int32) (x3 : Int32) (x4 : Int32) (x5 : Int32) : Option (Int32) := (if (x4 &&& x3) = 0 then some (0 : Int32) else (if (x5 &&& x2) = 0 then some (0 : Int32) else some (1 : Int32)))
def fM_isBetween (N : Nat) (σ : MSt) (x1 : Int32) (x2 : Int32) (x3 : Int32) : Option (Int32) := chk x1 4 (chk x1 4 ((if (((1 : Int32) <<< ((σ.2.2.1 6 x1.toNatClampNeg) &&& 31)) &&& x2) = 0 then fM_isBetween_J34 N σ x2 x3 ((1 : Int32) <<< ((σ.2.2.1 6 x1.toNatClampNeg) &&& 31)) ((1 : Int32) <<< ((σ.2.2.1 8 x1.toNatClampNeg) &&& 31)) else (if (((1 : Int32) <<< ((σ.2.2.1 8 x1.toNatClampNeg) &&& 31)) &&& x3) = 0 then fM_isBetween_J34 N σ x2 x3 ((1 : Int32) <<< ((σ.2.2.1 6 x1.toNatClampNeg) &&& 31)) ((1 : Int32) <<< ((σ.2.2.1 8 x1.toNatClampNeg) &&& 31)) else some (1 : Int32)))))
set_option maxRecDepth 100000 in
set_option maxHeartbeats 4000000 in
theorem wM_isBetween_J34 {p : Program} {l : Launch} {e : Env} {s : State} {m : MethodId} {args : Array Value} {below : List Frame} {meth : Method} {c : Code} {D : va_G} {κ : Nat → ClassId} {ρ : Nat → Nat} {σ : MSt} (C : MC p m c cX7_isBetween 6 s args wsX7_isBetween D κ) (hr : meth.sig.returnType = (some .boolean)) (hlk : meth.locks = false) (hP : va_P D vwCl (cellsM κ ρ σ) s.heap) {N : Nat} {r : Int32} : ∀ (x2 : Int32) (x3 : Int32) (x4 : Int32) (x5 : Int32) (ls : Array Slot), fM_isBetween_J34 N σ x2 x3 x4 x5 = some r → lv_has ls 6 [(2, .int x2), (3, .int x3), (4, .int x4), (5, .int x5)] → W p l e ({ frames := 0, cells := 0, slots := 0, locals := 0 } : Room) s m args below meth c s.heap [] 0 0 (MQ below (PU (some (.int r))) args s 0 0 (fun _ => False)) (F0 m 34 ls []) := by
  have hx := C.1.1
  have hb := C.1.2.1
  have hts := C.1.2.2.2.2
  have hown := C.1.2.2.2.1
  intro x2 x3 x4 x5 ls h hl
  unfold fM_isBetween_J34 at h
  refine lv_iload hx hb dX7_isBetween_34 (lv_at hl 2 rfl) ?_
  refine lv_iload_n hx hb dX7_isBetween_36 rfl (lv_at hl 1 rfl) ?_
  refine lv_iand hx hb dX7_isBetween_37 ?_
  refine lv_if_eq (tgt := 52) hx hb dX7_isBetween_38 (by decide) (fun c_38 => ?_) (fun c_38 => ?_)
  · have h := zz_pos c_38 h
    refine lv_iconst (v := (0 : Int32)) hx hb dX7_isBetween_52 (by decide) ?_
    exact W.zret (ty := .boolean) hx hb hr (by decide +kernel) (fun t ht hW => ⟨by rw [some_of h], ht⟩) (fun _ h => by cases h) dX7_isBetween_53
  · have h := zz_neg c_38 h
    refine lv_iload hx hb dX7_isBetween_41 (lv_at hl 3 rfl) ?_
    refine lv_iload_n hx hb dX7_isBetween_43 rfl (lv_at hl 0 rfl) ?_
    refine lv_iand hx hb dX7_isBetween_44 ?_
    refine lv_if_eq (tgt := 52) hx hb dX7_isBetween_45 (by decide) (fun c_45 => ?_) (fun c_45 => ?_)
    · have h := zz_pos c_45 h
      refine lv_iconst (v := (0 : Int32)) hx hb dX7_isBetween_52 (by decide) ?_
      exact W.zret (ty := .boolean) hx hb hr (by decide +kernel) (fun t ht hW => ⟨by rw [some_of h], ht⟩) (fun _ h => by cases h) dX7_isBetween_53
    · have h := zz_neg c_45 h
      refine lv_iconst (v := (1 : Int32)) hx hb dX7_isBetween_48 (by decide) ?_
      refine lv_goto (tgt := 53) hx hb dX7_isBetween_49 (by decide) ?_
      exact W.zret (ty := .boolean) hx hb hr (by decide +kernel) (fun t ht hW => ⟨by rw [some_of h], ht⟩) (fun _ h => by cases h) dX7_isBetween_53
set_option maxRecDepth 100000 in
set_option maxHeartbeats 4000000 in
theorem cM_isBetween {l : Launch} {D : va_G} {κ : Nat → ClassId} {ρ : Nat → Nat} {N : Nat} {σ : MSt} {x1 : Int32} {x2 : Int32} {x3 : Int32} {r : Int32} (h : fM_isBetween N σ x1 x2 x3 = some r) : Met l yX7_isBetween wsX7_isBetween ({ frames := 0, cells := 0, slots := 0, locals := 0 } : Room) (va_Pc [.ref (ρ 40), .int x1, .int x2, .int x3] (PR D κ ρ σ)) (PU (some (.int r))) 0 0 (fun _ => False) := by
  refine mMetR (ret := (some .boolean)) (by decide) rfl rfl (Nat.le_of_ble_eq_true rfl) ?_
  intro p e s m below meth c ls C hr hlk hP hl
  have hl : lv_has ls 6 [(0, .ref (ρ 40)), (1, .int x1), (2, .int x2), (3, .int x3)] := hl
  unfold fM_isBetween at h
  have hx := C.1.1
  have hb := C.1.2.1
  have hts := C.1.2.2.2.2
  have hown := C.1.2.2.2.1
  have k_29 := hts (.fieldLink RX7 29 "PlanCabinetModel" "pairT" "[I") (by decide +kernel)
  have k_35 := hts (.fieldLink RX7 35 "PlanCabinetModel" "pairU" "[I") (by decide +kernel)
  have in_7 : ∀ w ∈ wsX70, w ∈ wsX7_isBetween := by decide +kernel
  refine lv_iconst (v := (1 : Int32)) hx hb dX7_isBetween_0 (by decide) ?_
  refine lv_aload_n hx hb dX7_isBetween_1 rfl (lv_at hl 0 rfl) ?_
  refine mG_6 C in_7 hP k_29 dX7_isBetween_2 ?_
  refine lv_iload_n hx hb dX7_isBetween_5 rfl (lv_at hl 1 rfl) ?_
  obtain ⟨b_6, h⟩ := chk_of h
  refine mL_6 C hP b_6 dX7_isBetween_6 ?_
  refine lv_ishl hx hb dX7_isBetween_7 ?_
  refine lv_istore (lv' := [(4, .int ((1 : Int32) <<< ((σ.2.2.1 6 x1.toNatClampNeg) &&& 31))), (0, .ref (ρ 40)), (1, .int x1), (2, .int x2), (3, .int x3)]) hx hb dX7_isBetween_8 hl (by decide) rfl (fun ls hl => ?_)
  refine lv_iconst (v := (1 : Int32)) hx hb dX7_isBetween_10 (by decide) ?_
  refine lv_aload_n hx hb dX7_isBetween_11 rfl (lv_at hl 1 rfl) ?_
  refine mG_8 C in_7 hP k_35 dX7_isBetween_12 ?_
  refine lv_iload_n hx hb dX7_isBetween_15 rfl (lv_at hl 2 rfl) ?_
  obtain ⟨b_16, h⟩ := chk_of h
  refine mL_8 C hP b_16 dX7_isBetween_16 ?_
  refine lv_ishl hx hb dX7_isBetween_17 ?_
  refine lv_istore (lv' := [(5, .int ((1 : Int32) <<< ((σ.2.2.1 8 x1.toNatClampNeg) &&& 31))), (4, .int ((1 : Int32) <<< ((σ.2.2.1 6 x1.toNatClampNeg) &&& 31))), (0, .ref (ρ 40)), (1, .int x1), (2, .int x2), (3, .int x3)]) hx hb dX7_isBetween_18 hl (by decide) rfl (fun ls hl => ?_)
  refine lv_iload hx hb dX7_isBetween_20 (lv_at hl 1 rfl) ?_
  refine lv_iload_n hx hb dX7_isBetween_22 rfl (lv_at hl 4 rfl) ?_
  refine lv_iand hx hb dX7_isBetween_23 ?_
  refine lv_if_eq (tgt := 34) hx hb dX7_isBetween_24 (by decide) (fun c_24 => ?_) (fun c_24 => ?_)
  · have h := zz_pos c_24 h
    exact wM_isBetween_J34 C hr hlk hP _ _ _ _ _ h (lv_sub hl [4, 5, 1, 0] rfl)
  · have h := zz_neg c_24 h
    refine lv_iload hx hb dX7_isBetween_27 (lv_at hl 0 rfl) ?_
    refine lv_iload_n hx hb dX7_isBetween_29 rfl (lv_at hl 5 rfl) ?_
    refine lv_iand hx hb dX7_isBetween_30 ?_
    refine lv_if_ne (tgt := 48) hx hb dX7_isBetween_31 (by decide) (fun c_31 => ?_) (fun c_31 => ?_)
    · have h := zz_neg c_31 h
      refine lv_iconst (v := (1 : Int32)) hx hb dX7_isBetween_48 (by decide) ?_
      refine lv_goto (tgt := 53) hx hb dX7_isBetween_49 (by decide) ?_
      exact W.zret (ty := .boolean) hx hb hr (by decide +kernel) (fun t ht hW => ⟨by rw [some_of h], ht⟩) (fun _ h => by cases h) dX7_isBetween_53
    · have h := zz_pos c_31 h
      exact wM_isBetween_J34 C hr hlk hP _ _ _ _ _ h (lv_sub hl [4, 5, 1, 0] rfl)
def fM_between_L2 (N : Nat) (σ : MSt) : Nat → Int32 → Int32 → Int32 → Option (Int32)
  | 0, _, _, _ => none
  | n + 1, x1, x2, x3 => (if (σ.1 1) ≤ x3 then some (-1 : Int32) else (fM_isBetween N σ x3 x1 x2).bind fun r_14 => (if r_14 = 0 then fM_between_L2 N σ n x1 x2 (x3 + 1) else some x3))
def fM_between (N : Nat) (σ : MSt) (x1 : Int32) (x2 : Int32) : Option (Int32) := fM_between_L2 N σ N x1 x2 (0 : Int32)
set_option maxRecDepth 100000 in
set_option maxHeartbeats 4000000 in
theorem wM_between_L2 {p : Program} {l : Launch} {e : Env} {s : State} {m : MethodId} {args : Array Value} {below : List Frame} {meth : Method} {c : Code} {D : va_G} {κ : Nat → ClassId} {ρ : Nat → Nat} {σ : MSt} (C : MC p m c cX7_between 4 s args wsX7_between D κ) (hr : meth.sig.returnType = (some .int)) (hlk : meth.locks = false) (hP : va_P D vwCl (cellsM κ ρ σ) s.heap) {N : Nat} {r : Int32} : ∀ (n : Nat) (x1 : Int32) (x2 : Int32) (x3 : Int32) (ls : Array Slot), fM_between_L2 N σ n x1 x2 x3 = some r → lv_has ls 4 [(0, .ref (ρ 40)), (1, .int x1), (2, .int x2), (3, .int x3)] → W p l e ({ frames := 1, cells := 0, slots := 0, locals := 25 } : Room) s m args below meth c s.heap [] 0 0 (MQ below (PU (some (.int r))) args s 0 0 (fun _ => False)) (F0 m 2 ls []) := by
  have hx := C.1.1
  have hb := C.1.2.1
  have hts := C.1.2.2.2.2
  have hown := C.1.2.2.2.1
  have k_13 := hts (.fieldLink RX7 13 "PlanCabinetModel" "pairings" "I") (by decide +kernel)
  have in_7 : ∀ w ∈ wsX70, w ∈ wsX7_between := by decide +kernel
  intro n
  induction n with
  | zero =>
    intro x1 x2 x3 ls h hl
    rw [fM_between_L2] at h
    cases h
  | succ n ih =>
    intro x1 x2 x3 ls h hl
    rw [fM_between_L2] at h
    refine lv_iload_n hx hb dX7_between_2 rfl (lv_at hl 3 rfl) ?_
    refine lv_aload_n hx hb dX7_between_3 rfl (lv_at hl 0 rfl) ?_
    refine mG_1 C in_7 hP k_13 dX7_between_4 ?_
    refine lv_icmp_ge (tgt := 28) hx hb dX7_between_7 (by decide) (fun c_7 => ?_) (fun c_7 => ?_)
    · have h := zz_pos c_7 h
      refine lv_iconst (v := (-1 : Int32)) hx hb dX7_between_28 (by decide) ?_
      exact W.iret hx hb hr (fun t ht hW => ⟨by rw [some_of h], ht⟩) (fun _ h => by cases h) dX7_between_29
    · have h := zz_neg c_7 h
      refine lv_aload_n hx hb dX7_between_10 rfl (lv_at hl 0 rfl) ?_
      refine lv_iload_n hx hb dX7_between_11 rfl (lv_at hl 3 rfl) ?_
      refine lv_iload_n hx hb dX7_between_12 rfl (lv_at hl 1 rfl) ?_
      refine lv_iload_n hx hb dX7_between_13 rfl (lv_at hl 2 rfl) ?_
      obtain ⟨r_14, e_14, h⟩ := bnd_of h
      refine callP (W.runV (As := [.int x3, .int x1, .int x2]) C.1 (cM_isBetween e_14) (cwV 3 hts gX7_between_X7_isBetween rfl rfl rfl (by decide +kernel) ⟨by decide, by decide⟩) (mPreR C.2 hP _) rfl rfl hl.1 rfl (lv_room (Nat.le_of_ble_eq_true rfl)) dX7_between_14 ⟨Nat.zero_le _, Nat.zero_le _⟩) ?_
      refine lv_if_eq (tgt := 22) hx hb dX7_between_17 (by decide) (fun c_17 => ?_) (fun c_17 => ?_)
      · have h := zz_pos c_17 h
        refine lv_iinc (v := (x3 + 1)) (lv' := [(3, .int (x3 + 1)), (0, .ref (ρ 40)), (1, .int x1), (2, .int x2)]) hx hb dX7_between_22 hl (k := 3) rfl rfl (by decide) rfl (fun ls hl => ?_)
        refine lv_goto (tgt := 2) hx hb dX7_between_25 (by decide) ?_
        exact ih _ _ _ _ h (lv_sub hl [1, 2, 3, 0] rfl)
      · have h := zz_neg c_17 h
        refine lv_iload_n hx hb dX7_between_20 rfl (lv_at hl 3 rfl) ?_
        exact W.iret hx hb hr (fun t ht hW => ⟨by rw [some_of h], ht⟩) (fun _ h => by cases h) dX7_between_21
set_option maxRecDepth 100000 in
set_option maxHeartbeats 4000000 in
theorem cM_between {l : Launch} {D : va_G} {κ : Nat → ClassId} {ρ : Nat → Nat} {N : Nat} {σ : MSt} {x1 : Int32} {x2 : Int32} {r : Int32} (h : fM_between N σ x1 x2 = some r) : Met l yX7_between wsX7_between ({ frames := 1, cells := 0, slots := 0, locals := 25 } : Room) (va_Pc [.ref (ρ 40), .int x1, .int x2] (PR D κ ρ σ)) (PU (some (.int r))) 0 0 (fun _ => False) := by
  refine mMetR (ret := (some .int)) (by decide) rfl rfl (Nat.le_of_ble_eq_true rfl) ?_
  intro p e s m below meth c ls C hr hlk hP hl
  have hl : lv_has ls 4 [(0, .ref (ρ 40)), (1, .int x1), (2, .int x2)] := hl
  unfold fM_between at h
  have hx := C.1.1
  have hb := C.1.2.1
  have hts := C.1.2.2.2.2
  have hown := C.1.2.2.2.1
  refine lv_iconst (v := (0 : Int32)) hx hb dX7_between_0 (by decide) ?_
  refine lv_istore_n (lv' := [(3, .int (0 : Int32)), (0, .ref (ρ 40)), (1, .int x1), (2, .int x2)]) hx hb dX7_between_1 rfl hl (by decide) rfl (fun ls hl => ?_)
  exact wM_between_L2 C hr hlk hP _ _ _ _ _ h (lv_sub hl [1, 2, 3, 0] rfl)
def fM_all (N : Nat) (σ : MSt) : Option (Int32) := some (((1 : Int32) <<< ((σ.1 0) &&& 31)) - (1 : Int32))
set_option maxRecDepth 100000 in
set_option maxHeartbeats 4000000 in
theorem cM_all {l : Launch} {D : va_G} {κ : Nat → ClassId} {ρ : Nat → Nat} {N : Nat} {σ : MSt} {r : Int32} (h : fM_all N σ = some r) : Met l yX7_all wsX7_all ({ frames := 0, cells := 0, slots := 0, locals := 0 } : Room) (va_Pc [.ref (ρ 40)] (PR D κ ρ σ)) (PU (some (.int r))) 0 0 (fun _ => False) := by
  refine mMetR (ret := (some .int)) (by decide) rfl rfl (Nat.le_of_ble_eq_true rfl) ?_
  intro p e s m below meth c ls C hr hlk hP hl
  have hl : lv_has ls 1 [(0, .ref (ρ 40))] := hl
  unfold fM_all at h
  have hx := C.1.1
  have hb := C.1.2.1
  have hts := C.1.2.2.2.2
  have hown := C.1.2.2.2.1
  have k_7 := hts (.fieldLink RX7 7 "PlanCabinetModel" "tables" "I") (by decide +kernel)
  have in_7 : ∀ w ∈ wsX70, w ∈ wsX7_all := by decide +kernel
  refine lv_iconst (v := (1 : Int32)) hx hb dX7_all_0 (by decide) ?_
  refine lv_aload_n hx hb dX7_all_1 rfl (lv_at hl 0 rfl) ?_
  refine mG_0 C in_7 hP k_7 dX7_all_2 ?_
  refine lv_ishl hx hb dX7_all_5 ?_
  refine lv_iconst (v := (1 : Int32)) hx hb dX7_all_6 (by decide) ?_
  refine lv_isub hx hb dX7_all_7 ?_
  exact W.iret hx hb hr (fun t ht hW => ⟨by rw [some_of h], ht⟩) (fun _ h => by cases h) dX7_all_8
def fM_isWhole_L20 (N : Nat) (σ : MSt) (K71 : Int32 → Int32 → Option (Int32)) : Nat → Int32 → Int32 → Int32 → Option (Int32)
  | 0, _, _, _ => none
  | n + 1, x1, x2, x3 => (if (σ.1 1) ≤ x3 then K71 x1 x2 else (fM_all N σ).bind fun r_32 => (fM_isBetween N σ x3 x1 (r_32 &&& (x1 ^^^ (-1 : Int32)))).bind fun r_39 => (if r_39 = 0 then fM_isWhole_L20 N σ K71 n x1 x2 (x3 + 1) else chk x3 4 (chk x3 4 (fM_isWhole_L20 N σ K71 n (x1 ||| (((1 : Int32) <<< ((σ.2.2.1 6 x3.toNatClampNeg) &&& 31)) ||| ((1 : Int32) <<< ((σ.2.2.1 8 x3.toNatClampNeg) &&& 31)))) x2 (x3 + 1)))))
def fM_isWhole_L13 (N : Nat) (σ : MSt) (K77 : Int32 → Option (Int32)) : Nat → Int32 → Int32 → Option (Int32)
  | 0, _, _ => none
  | n + 1, x1, x2 => (if (4 : Int32) ≤ x2 then K77 x1 else fM_isWhole_L20 N σ (fun (x1 : Int32) (x2 : Int32) => fM_isWhole_L13 N σ K77 n x1 (x2 + 1)) N x1 x2 (0 : Int32))
def fM_isWhole_L93 (N : Nat) (σ : MSt) : Nat → Int32 → Int32 → Option (Int32)
  | 0, _, _ => none
  | n + 1, x2, x3 => (if (σ.1 0) ≤ x3 then bt x2 (some x2) else (if x2 = 0 then fM_isWhole_L93 N σ n (0 : Int32) (x3 + 1) else chk x3 4 ((if (σ.2.2.1 4 x3.toNatClampNeg) ≤ 0 then fM_isWhole_L93 N σ n (0 : Int32) (x3 + 1) else fM_isWhole_L93 N σ n (1 : Int32) (x3 + 1)))))
def fM_isWhole_J90 (N : Nat) (σ : MSt) (y0 : Int32) : Option (Int32) := fM_isWhole_L93 N σ N y0 (0 : Int32)
def fM_isWhole (N : Nat) (σ : MSt) : Option (Int32) := (if (σ.1 0) = 0 then some (0 : Int32) else fM_isWhole_L13 N σ (fun (x1 : Int32) => (fM_all N σ).bind fun r_79 => (if x1 = r_79 then fM_isWhole_J90 N σ (1 : Int32) else fM_isWhole_J90 N σ (0 : Int32))) N (1 : Int32) (0 : Int32))
set_option maxRecDepth 100000 in
set_option maxHeartbeats 4000000 in
theorem wM_isWhole_L20 {p : Program} {l : Launch} {e : Env} {s : State} {m : MethodId} {args : Array Value} {below : List Frame} {meth : Method} {c : Code} {D : va_G} {κ : Nat → ClassId} {ρ : Nat → Nat} {σ : MSt} (C : MC p m c cX7_isWhole 4 s args wsX7_isWhole D κ) (hr : meth.sig.returnType = (some .boolean)) (hlk : meth.locks = false) (hP : va_P D vwCl (cellsM κ ρ σ) s.heap) {N : Nat} {r : Int32} {K71 : Int32 → Int32 → Option (Int32)} : ∀ (n : Nat) (x1 : Int32) (x2 : Int32) (x3 : Int32) (ls : Array Slot), fM_isWhole_L20 N σ K71 n x1 x2 x3 = some r → lv_has ls 4 [(0, .ref (ρ 40)), (1, .int x1), (2, .int x2), (3, .int x3)] → (∀ (x1 : Int32) (x2 : Int32) (ls : Array Slot), K71 x1 x2 = some r → lv_has ls 4 [(0, .ref (ρ 40)), (1, .int x1), (2, .int x2)] → W p l e ({ frames := 1, cells := 0, slots := 0, locals := 25 } : Room) s m args below meth c s.heap [] 0 0 (MQ below (PU (some (.int r))) args s 0 0 (fun _ => False)) (F0 m 71 ls [])) → W p l e ({ frames := 1, cells := 0, slots := 0, locals := 25 } : Room) s m args below meth c s.heap [] 0 0 (MQ below (PU (some (.int r))) args s 0 0 (fun _ => False)) (F0 m 20 ls []) := by
  have hx := C.1.1
  have hb := C.1.2.1
  have hts := C.1.2.2.2.2
  have hown := C.1.2.2.2.1
  have k_13 := hts (.fieldLink RX7 13 "PlanCabinetModel" "pairings" "I") (by decide +kernel)
  have k_29 := hts (.fieldLink RX7 29 "PlanCabinetModel" "pairT" "[I") (by decide +kernel)
  have k_35 := hts (.fieldLink RX7 35 "PlanCabinetModel" "pairU" "[I") (by decide +kernel)
  have in_7 : ∀ w ∈ wsX70, w ∈ wsX7_isWhole := by decide +kernel
  intro n
  induction n with
  | zero =>
    intro x1 x2 x3 ls h hl hK71
    rw [fM_isWhole_L20] at h
    cases h
  | succ n ih =>
    intro x1 x2 x3 ls h hl hK71
    rw [fM_isWhole_L20] at h
    refine lv_iload_n hx hb dX7_isWhole_20 rfl (lv_at hl 3 rfl) ?_
    refine lv_aload_n hx hb dX7_isWhole_21 rfl (lv_at hl 0 rfl) ?_
    refine mG_1 C in_7 hP k_13 dX7_isWhole_22 ?_
    refine lv_icmp_ge (tgt := 71) hx hb dX7_isWhole_25 (by decide) (fun c_25 => ?_) (fun c_25 => ?_)
    · have h := zz_pos c_25 h
      exact hK71 _ _ _ h (lv_sub hl [0, 1, 2] rfl)
    · have h := zz_neg c_25 h
      refine lv_aload_n hx hb dX7_isWhole_28 rfl (lv_at hl 0 rfl) ?_
      refine lv_iload_n hx hb dX7_isWhole_29 rfl (lv_at hl 3 rfl) ?_
      refine lv_iload_n hx hb dX7_isWhole_30 rfl (lv_at hl 1 rfl) ?_
      refine lv_aload_n hx hb dX7_isWhole_31 rfl (lv_at hl 0 rfl) ?_
      obtain ⟨r_32, e_32, h⟩ := bnd_of h
      refine callP (W.runV (As := []) C.1 (cM_all e_32) (cwV 0 hts gX7_isWhole_X7_all rfl rfl rfl (by decide +kernel) ⟨by decide, by decide⟩) (mPreR C.2 hP _) rfl rfl hl.1 rfl (lv_room (Nat.le_of_ble_eq_true rfl)) dX7_isWhole_32 ⟨Nat.zero_le _, Nat.zero_le _⟩) ?_
      refine lv_iload_n hx hb dX7_isWhole_35 rfl (lv_at hl 1 rfl) ?_
      refine lv_iconst (v := (-1 : Int32)) hx hb dX7_isWhole_36 (by decide) ?_
      refine lv_ixor hx hb dX7_isWhole_37 ?_
      refine lv_iand hx hb dX7_isWhole_38 ?_
      obtain ⟨r_39, e_39, h⟩ := bnd_of h
      refine callP (W.runV (As := [.int x3, .int x1, .int (r_32 &&& (x1 ^^^ (-1 : Int32)))]) C.1 (cM_isBetween e_39) (cwV 3 hts gX7_isWhole_X7_isBetween rfl rfl rfl (by decide +kernel) ⟨by decide, by decide⟩) (mPreR C.2 hP _) rfl rfl hl.1 rfl (lv_room (Nat.le_of_ble_eq_true rfl)) dX7_isWhole_39 ⟨Nat.zero_le _, Nat.zero_le _⟩) ?_
      refine lv_if_eq (tgt := 65) hx hb dX7_isWhole_42 (by decide) (fun c_42 => ?_) (fun c_42 => ?_)
      · have h := zz_pos c_42 h
        refine lv_iinc (v := (x3 + 1)) (lv' := [(3, .int (x3 + 1)), (0, .ref (ρ 40)), (1, .int x1), (2, .int x2)]) hx hb dX7_isWhole_65 hl (k := 3) rfl rfl (by decide) rfl (fun ls hl => ?_)
        refine lv_goto (tgt := 20) hx hb dX7_isWhole_68 (by decide) ?_
        exact ih _ _ _ _ h (lv_sub hl [1, 2, 3, 0] rfl) hK71
      · have h := zz_neg c_42 h
        refine lv_iload_n hx hb dX7_isWhole_45 rfl (lv_at hl 1 rfl) ?_
        refine lv_iconst (v := (1 : Int32)) hx hb dX7_isWhole_46 (by decide) ?_
        refine lv_aload_n hx hb dX7_isWhole_47 rfl (lv_at hl 0 rfl) ?_
        refine mG_6 C in_7 hP k_29 dX7_isWhole_48 ?_
        refine lv_iload_n hx hb dX7_isWhole_51 rfl (lv_at hl 3 rfl) ?_
        obtain ⟨b_52, h⟩ := chk_of h
        refine mL_6 C hP b_52 dX7_isWhole_52 ?_
        refine lv_ishl hx hb dX7_isWhole_53 ?_
        refine lv_iconst (v := (1 : Int32)) hx hb dX7_isWhole_54 (by decide) ?_
        refine lv_aload_n hx hb dX7_isWhole_55 rfl (lv_at hl 0 rfl) ?_
        refine mG_8 C in_7 hP k_35 dX7_isWhole_56 ?_
        refine lv_iload_n hx hb dX7_isWhole_59 rfl (lv_at hl 3 rfl) ?_
        obtain ⟨b_60, h⟩ := chk_of h
        refine mL_8 C hP b_60 dX7_isWhole_60 ?_
        refine lv_ishl hx hb dX7_isWhole_61 ?_
        refine lv_ior hx hb dX7_isWhole_62 ?_
        refine lv_ior hx hb dX7_isWhole_63 ?_
        refine lv_istore_n (lv' := [(1, .int (x1 ||| (((1 : Int32) <<< ((σ.2.2.1 6 x3.toNatClampNeg) &&& 31)) ||| ((1 : Int32) <<< ((σ.2.2.1 8 x3.toNatClampNeg) &&& 31))))), (0, .ref (ρ 40)), (2, .int x2), (3, .int x3)]) hx hb dX7_isWhole_64 rfl hl (by decide) rfl (fun ls hl => ?_)
        refine lv_iinc (v := (x3 + 1)) (lv' := [(3, .int (x3 + 1)), (1, .int (x1 ||| (((1 : Int32) <<< ((σ.2.2.1 6 x3.toNatClampNeg) &&& 31)) ||| ((1 : Int32) <<< ((σ.2.2.1 8 x3.toNatClampNeg) &&& 31))))), (0, .ref (ρ 40)), (2, .int x2)]) hx hb dX7_isWhole_65 hl (k := 3) rfl rfl (by decide) rfl (fun ls hl => ?_)
        refine lv_goto (tgt := 20) hx hb dX7_isWhole_68 (by decide) ?_
        exact ih _ _ _ _ h (lv_sub hl [2, 1, 3, 0] rfl) hK71
set_option maxRecDepth 100000 in
set_option maxHeartbeats 4000000 in
theorem wM_isWhole_L13 {p : Program} {l : Launch} {e : Env} {s : State} {m : MethodId} {args : Array Value} {below : List Frame} {meth : Method} {c : Code} {D : va_G} {κ : Nat → ClassId} {ρ : Nat → Nat} {σ : MSt} (C : MC p m c cX7_isWhole 4 s args wsX7_isWhole D κ) (hr : meth.sig.returnType = (some .boolean)) (hlk : meth.locks = false) (hP : va_P D vwCl (cellsM κ ρ σ) s.heap) {N : Nat} {r : Int32} {K77 : Int32 → Option (Int32)} : ∀ (n : Nat) (x1 : Int32) (x2 : Int32) (ls : Array Slot), fM_isWhole_L13 N σ K77 n x1 x2 = some r → lv_has ls 4 [(0, .ref (ρ 40)), (1, .int x1), (2, .int x2)] → (∀ (x1 : Int32) (ls : Array Slot), K77 x1 = some r → lv_has ls 4 [(0, .ref (ρ 40)), (1, .int x1)] → W p l e ({ frames := 1, cells := 0, slots := 0, locals := 25 } : Room) s m args below meth c s.heap [] 0 0 (MQ below (PU (some (.int r))) args s 0 0 (fun _ => False)) (F0 m 77 ls [])) → W p l e ({ frames := 1, cells := 0, slots := 0, locals := 25 } : Room) s m args below meth c s.heap [] 0 0 (MQ below (PU (some (.int r))) args s 0 0 (fun _ => False)) (F0 m 13 ls []) := by
  have hx := C.1.1
  have hb := C.1.2.1
  have hts := C.1.2.2.2.2
  have hown := C.1.2.2.2.1
  intro n
  induction n with
  | zero =>
    intro x1 x2 ls h hl hK77
    rw [fM_isWhole_L13] at h
    cases h
  | succ n ih =>
    intro x1 x2 ls h hl hK77
    rw [fM_isWhole_L13] at h
    refine lv_iload_n hx hb dX7_isWhole_13 rfl (lv_at hl 2 rfl) ?_
    refine lv_iconst (v := (4 : Int32)) hx hb dX7_isWhole_14 (by decide) ?_
    refine lv_icmp_ge (tgt := 77) hx hb dX7_isWhole_15 (by decide) (fun c_15 => ?_) (fun c_15 => ?_)
    · have h := zz_pos c_15 h
      exact hK77 _ _ h (lv_sub hl [0, 1] rfl)
    · have h := zz_neg c_15 h
      refine lv_iconst (v := (0 : Int32)) hx hb dX7_isWhole_18 (by decide) ?_
      refine lv_istore_n (lv' := [(3, .int (0 : Int32)), (0, .ref (ρ 40)), (1, .int x1), (2, .int x2)]) hx hb dX7_isWhole_19 rfl hl (by decide) rfl (fun ls hl => ?_)
      refine wM_isWhole_L20 C hr hlk hP _ _ _ _ _ h (lv_sub hl [1, 2, 3, 0] rfl) ?_
      intro x1 x2 ls h hl
      refine lv_iinc (v := (x2 + 1)) (lv' := [(2, .int (x2 + 1)), (0, .ref (ρ 40)), (1, .int x1)]) hx hb dX7_isWhole_71 hl (k := 2) rfl rfl (by decide) rfl (fun ls hl => ?_)
      refine lv_goto (tgt := 13) hx hb dX7_isWhole_74 (by decide) ?_
      exact ih _ _ _ h (lv_sub hl [1, 2, 0] rfl) hK77
set_option maxRecDepth 100000 in
set_option maxHeartbeats 4000000 in
theorem wM_isWhole_L93 {p : Program} {l : Launch} {e : Env} {s : State} {m : MethodId} {args : Array Value} {below : List Frame} {meth : Method} {c : Code} {D : va_G} {κ : Nat → ClassId} {ρ : Nat → Nat} {σ : MSt} (C : MC p m c cX7_isWhole 4 s args wsX7_isWhole D κ) (hr : meth.sig.returnType = (some .boolean)) (hlk : meth.locks = false) (hP : va_P D vwCl (cellsM κ ρ σ) s.heap) {N : Nat} {r : Int32} : ∀ (n : Nat) (x2 : Int32) (x3 : Int32) (ls : Array Slot), fM_isWhole_L93 N σ n x2 x3 = some r → lv_has ls 4 [(0, .ref (ρ 40)), (2, .int x2), (3, .int x3)] → W p l e ({ frames := 1, cells := 0, slots := 0, locals := 25 } : Room) s m args below meth c s.heap [] 0 0 (MQ below (PU (some (.int r))) args s 0 0 (fun _ => False)) (F0 m 93 ls []) := by
  have hx := C.1.1
  have hb := C.1.2.1
  have hts := C.1.2.2.2.2
  have hown := C.1.2.2.2.1
  have k_7 := hts (.fieldLink RX7 7 "PlanCabinetModel" "tables" "I") (by decide +kernel)
  have k_22 := hts (.fieldLink RX7 22 "PlanCabinetModel" "rows" "[I") (by decide +kernel)
  have in_7 : ∀ w ∈ wsX70, w ∈ wsX7_isWhole := by decide +kernel
  intro n
  induction n with
  | zero =>
    intro x2 x3 ls h hl
    rw [fM_isWhole_L93] at h
    cases h
  | succ n ih =>
    intro x2 x3 ls h hl
    rw [fM_isWhole_L93] at h
    refine lv_iload_n hx hb dX7_isWhole_93 rfl (lv_at hl 2 rfl) ?_
    refine lv_aload_n hx hb dX7_isWhole_94 rfl (lv_at hl 0 rfl) ?_
    refine mG_0 C in_7 hP k_7 dX7_isWhole_95 ?_
    refine lv_icmp_ge (tgt := 126) hx hb dX7_isWhole_98 (by decide) (fun c_98 => ?_) (fun c_98 => ?_)
    · have h := zz_pos c_98 h
      refine lv_iload_n hx hb dX7_isWhole_126 rfl (lv_at hl 1 rfl) ?_
      obtain ⟨b_127, h⟩ := bt_of h
      exact W.zret (ty := .boolean) hx hb hr (bt_nar b_127) (fun t ht hW => ⟨by rw [some_of h], ht⟩) (fun _ h => by cases h) dX7_isWhole_127
    · have h := zz_neg c_98 h
      refine lv_iload_n hx hb dX7_isWhole_101 rfl (lv_at hl 1 rfl) ?_
      refine lv_if_eq (tgt := 118) hx hb dX7_isWhole_102 (by decide) (fun c_102 => ?_) (fun c_102 => ?_)
      · have h := zz_pos c_102 h
        refine lv_iconst (v := (0 : Int32)) hx hb dX7_isWhole_118 (by decide) ?_
        refine lv_istore_n (lv' := [(2, .int (0 : Int32)), (0, .ref (ρ 40)), (3, .int x3)]) hx hb dX7_isWhole_119 rfl hl (by decide) rfl (fun ls hl => ?_)
        refine lv_iinc (v := (x3 + 1)) (lv' := [(3, .int (x3 + 1)), (2, .int (0 : Int32)), (0, .ref (ρ 40))]) hx hb dX7_isWhole_120 hl (k := 2) rfl rfl (by decide) rfl (fun ls hl => ?_)
        refine lv_goto (tgt := 93) hx hb dX7_isWhole_123 (by decide) ?_
        exact ih _ _ _ h (lv_sub hl [2, 1, 0] rfl)
      · have h := zz_neg c_102 h
        refine lv_aload_n hx hb dX7_isWhole_105 rfl (lv_at hl 0 rfl) ?_
        refine mG_4 C in_7 hP k_22 dX7_isWhole_106 ?_
        refine lv_iload_n hx hb dX7_isWhole_109 rfl (lv_at hl 2 rfl) ?_
        obtain ⟨b_110, h⟩ := chk_of h
        refine mL_4 C hP b_110 dX7_isWhole_110 ?_
        refine lv_if_le (tgt := 118) hx hb dX7_isWhole_111 (by decide) (fun c_111 => ?_) (fun c_111 => ?_)
        · have h := zz_pos c_111 h
          refine lv_iconst (v := (0 : Int32)) hx hb dX7_isWhole_118 (by decide) ?_
          refine lv_istore_n (lv' := [(2, .int (0 : Int32)), (0, .ref (ρ 40)), (3, .int x3)]) hx hb dX7_isWhole_119 rfl hl (by decide) rfl (fun ls hl => ?_)
          refine lv_iinc (v := (x3 + 1)) (lv' := [(3, .int (x3 + 1)), (2, .int (0 : Int32)), (0, .ref (ρ 40))]) hx hb dX7_isWhole_120 hl (k := 2) rfl rfl (by decide) rfl (fun ls hl => ?_)
          refine lv_goto (tgt := 93) hx hb dX7_isWhole_123 (by decide) ?_
          exact ih _ _ _ h (lv_sub hl [2, 1, 0] rfl)
        · have h := zz_neg c_111 h
          refine lv_iconst (v := (1 : Int32)) hx hb dX7_isWhole_114 (by decide) ?_
          refine lv_goto (tgt := 119) hx hb dX7_isWhole_115 (by decide) ?_
          refine lv_istore_n (lv' := [(2, .int (1 : Int32)), (0, .ref (ρ 40)), (3, .int x3)]) hx hb dX7_isWhole_119 rfl hl (by decide) rfl (fun ls hl => ?_)
          refine lv_iinc (v := (x3 + 1)) (lv' := [(3, .int (x3 + 1)), (2, .int (1 : Int32)), (0, .ref (ρ 40))]) hx hb dX7_isWhole_120 hl (k := 2) rfl rfl (by decide) rfl (fun ls hl => ?_)
          refine lv_goto (tgt := 93) hx hb dX7_isWhole_123 (by decide) ?_
          exact ih _ _ _ h (lv_sub hl [2, 1, 0] rfl)
set_option maxRecDepth 100000 in
set_option maxHeartbeats 4000000 in
theorem wM_isWhole_J90 {p : Program} {l : Launch} {e : Env} {s : State} {m : MethodId} {args : Array Value} {below : List Frame} {meth : Method} {c : Code} {D : va_G} {κ : Nat → ClassId} {ρ : Nat → Nat} {σ : MSt} (C : MC p m c cX7_isWhole 4 s args wsX7_isWhole D κ) (hr : meth.sig.returnType = (some .boolean)) (hlk : meth.locks = false) (hP : va_P D vwCl (cellsM κ ρ σ) s.heap) {N : Nat} {r : Int32} : ∀ (y0 : Int32) (ls : Array Slot), fM_isWhole_J90 N σ y0 = some r → lv_has ls 4 [(0, .ref (ρ 40))] → W p l e ({ frames := 1, cells := 0, slots := 0, locals := 25 } : Room) s m args below meth c s.heap [] 0 0 (MQ below (PU (some (.int r))) args s 0 0 (fun _ => False)) (F0 m 90 ls [.int y0]) := by
  have hx := C.1.1
  have hb := C.1.2.1
  have hts := C.1.2.2.2.2
  have hown := C.1.2.2.2.1
  intro y0 ls h hl
  unfold fM_isWhole_J90 at h
  refine lv_istore_n (lv' := [(2, .int y0), (0, .ref (ρ 40))]) hx hb dX7_isWhole_90 rfl hl (by decide) rfl (fun ls hl => ?_)
  refine lv_iconst (v := (0 : Int32)) hx hb dX7_isWhole_91 (by decide) ?_
  refine lv_istore_n (lv' := [(3, .int (0 : Int32)), (2, .int y0), (0, .ref (ρ 40))]) hx hb dX7_isWhole_92 rfl hl (by decide) rfl (fun ls hl => ?_)
  exact wM_isWhole_L93 C hr hlk hP _ _ _ _ h (lv_sub hl [2, 1, 0] rfl)
set_option maxRecDepth 100000 in
set_option maxHeartbeats 4000000 in
theorem cM_isWhole {l : Launch} {D : va_G} {κ : Nat → ClassId} {ρ : Nat → Nat} {N : Nat} {σ : MSt} {r : Int32} (h : fM_isWhole N σ = some r) : Met l yX7_isWhole wsX7_isWhole ({ frames := 1, cells := 0, slots := 0, locals := 25 } : Room) (va_Pc [.ref (ρ 40)] (PR D κ ρ σ)) (PU (some (.int r))) 0 0 (fun _ => False) := by
  refine mMetR (ret := (some .boolean)) (by decide) rfl rfl (Nat.le_of_ble_eq_true rfl) ?_
  intro p e s m below meth c ls C hr hlk hP hl
  have hl : lv_has ls 4 [(0, .ref (ρ 40))] := hl
  unfold fM_isWhole at h
  have hx := C.1.1
  have hb := C.1.2.1
  have hts := C.1.2.2.2.2
  have hown := C.1.2.2.2.1
  have k_7 := hts (.fieldLink RX7 7 "PlanCabinetModel" "tables" "I") (by decide +kernel)
  have in_7 : ∀ w ∈ wsX70, w ∈ wsX7_isWhole := by decide +kernel
  refine lv_aload_n hx hb dX7_isWhole_0 rfl (lv_at hl 0 rfl) ?_
  refine mG_0 C in_7 hP k_7 dX7_isWhole_1 ?_
  refine lv_if_ne (tgt := 9) hx hb dX7_isWhole_4 (by decide) (fun c_4 => ?_) (fun c_4 => ?_)
  · have h := zz_neg c_4 h
    refine lv_iconst (v := (1 : Int32)) hx hb dX7_isWhole_9 (by decide) ?_
    refine lv_istore_n (lv' := [(1, .int (1 : Int32)), (0, .ref (ρ 40))]) hx hb dX7_isWhole_10 rfl hl (by decide) rfl (fun ls hl => ?_)
    refine lv_iconst (v := (0 : Int32)) hx hb dX7_isWhole_11 (by decide) ?_
    refine lv_istore_n (lv' := [(2, .int (0 : Int32)), (1, .int (1 : Int32)), (0, .ref (ρ 40))]) hx hb dX7_isWhole_12 rfl hl (by decide) rfl (fun ls hl => ?_)
    refine wM_isWhole_L13 C hr hlk hP _ _ _ _ h (lv_sub hl [2, 1, 0] rfl) ?_
    intro x1 ls h hl
    refine lv_iload_n hx hb dX7_isWhole_77 rfl (lv_at hl 1 rfl) ?_
    refine lv_aload_n hx hb dX7_isWhole_78 rfl (lv_at hl 0 rfl) ?_
    obtain ⟨r_79, e_79, h⟩ := bnd_of h
    refine callP (W.runV (As := []) C.1 (cM_all e_79) (cwV 0 hts gX7_isWhole_X7_all rfl rfl rfl (by decide +kernel) ⟨by decide, by decide⟩) (mPreR C.2 hP _) rfl rfl hl.1 rfl (lv_room (Nat.le_of_ble_eq_true rfl)) dX7_isWhole_79 ⟨Nat.zero_le _, Nat.zero_le _⟩) ?_
    refine lv_icmp_ne (tgt := 89) hx hb dX7_isWhole_82 (by decide) (fun c_82 => ?_) (fun c_82 => ?_)
    · have h := zz_neg c_82 h
      refine lv_iconst (v := (0 : Int32)) hx hb dX7_isWhole_89 (by decide) ?_
      exact wM_isWhole_J90 C hr hlk hP _ _ h (lv_sub hl [0] rfl)
    · have h := zz_pos c_82 h
      refine lv_iconst (v := (1 : Int32)) hx hb dX7_isWhole_85 (by decide) ?_
      refine lv_goto (tgt := 90) hx hb dX7_isWhole_86 (by decide) ?_
      exact wM_isWhole_J90 C hr hlk hP _ _ h (lv_sub hl [0] rfl)
  · have h := zz_pos c_4 h
    refine lv_iconst (v := (0 : Int32)) hx hb dX7_isWhole_7 (by decide) ?_
    exact W.zret (ty := .boolean) hx hb hr (by decide +kernel) (fun t ht hW => ⟨by rw [some_of h], ht⟩) (fun _ h => by cases h) dX7_isWhole_8
def fM_table (N : Nat) (σ : MSt) : Option (Int32 × MSt) := (if (σ.1 11) ≤ 0 then (if (σ.1 0) = (4 : Int32) then some ((-4 : Int32), σ) else chk (σ.1 0) 4 (some ((((sI (sA σ 4 (σ.1 0).toNatClampNeg (0 : Int32)) 0 (((sA σ 4 (σ.1 0).toNatClampNeg (0 : Int32)).1 0) + (1 : Int32))).1 0) - (1 : Int32)), (sI (sA σ 4 (σ.1 0).toNatClampNeg (0 : Int32)) 0 (((sA σ 4 (σ.1 0).toNatClampNeg (0 : Int32)).1 0) + (1 : Int32)))))) else some ((-3 : Int32), σ))
set_option maxRecDepth 100000 in
set_option maxHeartbeats 4000000 in
theorem cM_table {l : Launch} {D : va_G} {κ : Nat → ClassId} {ρ : Nat → Nat} {sz : Nat} {N : Nat} {σ : MSt} {q : Int32 × MSt} (h : fM_table N σ = some q) : Met l yX7_table wsX7_table ({ frames := 0, cells := 0, slots := 0, locals := 0 } : Room) (va_Pc [.ref (ρ 40)] (PM D κ ρ sz σ)) (QM D κ ρ sz q.2 (some (.int q.1))) 0 0 (AM ρ sz) := by
  refine mMetM (ret := (some .int)) (by decide) rfl rfl (Nat.le_of_ble_eq_true rfl) ?_
  intro p e s m below meth c ls C hr hlk hD hP hl
  have hS : va_S (AM ρ s.heap.size) s.heap s.heap [] := va_S.rf
  have hl : lv_has ls 1 [(0, .ref (ρ 40))] := hl
  unfold fM_table at h
  have hx := C.1.1
  have hb := C.1.2.1
  have hts := C.1.2.2.2.2
  have hown := C.1.2.2.2.1
  have k_7 := hts (.fieldLink RX7 7 "PlanCabinetModel" "tables" "I") (by decide +kernel)
  have k_22 := hts (.fieldLink RX7 22 "PlanCabinetModel" "rows" "[I") (by decide +kernel)
  have k_44 := hts (.fieldLink RX7 44 "PlanCabinetModel" "plans" "I") (by decide +kernel)
  have in_7 : ∀ w ∈ wsX70, w ∈ wsX7_table := by decide +kernel
  refine lv_aload_n hx hb dX7_table_0 rfl (lv_at hl 0 rfl) ?_
  refine mG_11 C in_7 hP k_44 dX7_table_1 ?_
  refine lv_if_le (tgt := 10) hx hb dX7_table_4 (by decide) (fun c_4 => ?_) (fun c_4 => ?_)
  · have h := zz_pos c_4 h
    refine lv_aload_n hx hb dX7_table_10 rfl (lv_at hl 0 rfl) ?_
    refine mG_0 C in_7 hP k_7 dX7_table_11 ?_
    refine lv_iconst (v := (4 : Int32)) hx hb dX7_table_14 (by decide) ?_
    refine lv_icmp_ne (tgt := 21) hx hb dX7_table_15 (by decide) (fun c_15 => ?_) (fun c_15 => ?_)
    · have h := zz_neg c_15 h
      refine lv_aload_n hx hb dX7_table_21 rfl (lv_at hl 0 rfl) ?_
      refine mG_4 C in_7 hP k_22 dX7_table_22 ?_
      refine lv_aload_n hx hb dX7_table_25 rfl (lv_at hl 0 rfl) ?_
      refine mG_0 C in_7 hP k_7 dX7_table_26 ?_
      refine lv_iconst (v := (0 : Int32)) hx hb dX7_table_29 (by decide) ?_
      obtain ⟨b_30, h⟩ := chk_of h
      refine mS_4 C hP hD hS b_30 dX7_table_30 (fun H locs hP hS => ?_)
      refine lv_aload_n hx hb dX7_table_31 rfl (lv_at hl 0 rfl) ?_
      refine lv_dup hx hb dX7_table_32 rfl ?_
      refine mG_0 C in_7 hP k_7 dX7_table_33 ?_
      refine lv_iconst (v := (1 : Int32)) hx hb dX7_table_36 (by decide) ?_
      refine lv_iadd hx hb dX7_table_37 ?_
      refine mP_0 C in_7 hP hD hS k_7 dX7_table_38 (fun H locs hP hS => ?_)
      refine lv_aload_n hx hb dX7_table_41 rfl (lv_at hl 0 rfl) ?_
      refine mG_0 C in_7 hP k_7 dX7_table_42 ?_
      refine lv_iconst (v := (1 : Int32)) hx hb dX7_table_45 (by decide) ?_
      refine lv_isub hx hb dX7_table_46 ?_
      exact W.iret hx hb hr (fun t ht hW => ⟨by rw [← some_of h], by rw [ht, ← some_of h]; exact hP, hS.F ht⟩) hS.2.2 dX7_table_47
    · have h := zz_pos c_15 h
      refine lv_bipush (v := (-4 : Int32)) hx hb dX7_table_18 (by decide) ?_
      exact W.iret hx hb hr (fun t ht hW => ⟨by rw [← some_of h], by rw [ht, ← some_of h]; exact hP, hS.F ht⟩) hS.2.2 dX7_table_20
  · have h := zz_neg c_4 h
    refine lv_bipush (v := (-3 : Int32)) hx hb dX7_table_7 (by decide) ?_
    exact W.iret hx hb hr (fun t ht hW => ⟨by rw [← some_of h], by rw [ht, ← some_of h]; exact hP, hS.F ht⟩) hS.2.2 dX7_table_9
def fM_row (N : Nat) (σ : MSt) (x1 : Int32) (x2 : Int32) (x3 : Int32) (x4 : Int32) : Option (Int32 × MSt) := (fM_isTable N σ x1).bind fun r_2 => (if r_2 = 0 then some ((-1 : Int32), σ) else (if (σ.1 11) ≤ 0 then chk x1 4 ((if (σ.2.2.1 4 x1.toNatClampNeg) = (8 : Int32) then some ((-4 : Int32), σ) else chk x1 4 (chk (((36 : Int32) * x1) + ((3 : Int32) * (σ.2.2.1 4 x1.toNatClampNeg))) 144 (chk ((((36 : Int32) * x1) + ((3 : Int32) * (σ.2.2.1 4 x1.toNatClampNeg))) + (1 : Int32)) 144 (chk ((((36 : Int32) * x1) + ((3 : Int32) * (σ.2.2.1 4 x1.toNatClampNeg))) + (2 : Int32)) 144 (chk x1 4 (chk x1 4 (chk x1 4 (some ((((sA (sA (sA (sA σ 5 (((36 : Int32) * x1) + ((3 : Int32) * (σ.2.2.1 4 x1.toNatClampNeg))).toNatClampNeg x2) 5 ((((36 : Int32) * x1) + ((3 : Int32) * (σ.2.2.1 4 x1.toNatClampNeg))) + (1 : Int32)).toNatClampNeg x3) 5 ((((36 : Int32) * x1) + ((3 : Int32) * (σ.2.2.1 4 x1.toNatClampNeg))) + (2 : Int32)).toNatClampNeg x4) 4 x1.toNatClampNeg (((sA (sA (sA σ 5 (((36 : Int32) * x1) + ((3 : Int32) * (σ.2.2.1 4 x1.toNatClampNeg))).toNatClampNeg x2) 5 ((((36 : Int32) * x1) + ((3 : Int32) * (σ.2.2.1 4 x1.toNatClampNeg))) + (1 : Int32)).toNatClampNeg x3) 5 ((((36 : Int32) * x1) + ((3 : Int32) * (σ.2.2.1 4 x1.toNatClampNeg))) + (2 : Int32)).toNatClampNeg x4).2.2.1 4 x1.toNatClampNeg) + (1 : Int32))).2.2.1 4 x1.toNatClampNeg) - (1 : Int32)), (sA (sA (sA (sA σ 5 (((36 : Int32) * x1) + ((3 : Int32) * (σ.2.2.1 4 x1.toNatClampNeg))).toNatClampNeg x2) 5 ((((36 : Int32) * x1) + ((3 : Int32) * (σ.2.2.1 4 x1.toNatClampNeg))) + (1 : Int32)).toNatClampNeg x3) 5 ((((36 : Int32) * x1) + ((3 : Int32) * (σ.2.2.1 4 x1.toNatClampNeg))) + (2 : Int32)).toNatClampNeg x4) 4 x1.toNatClampNeg (((sA (sA (sA σ 5 (((36 : Int32) * x1) + ((3 : Int32) * (σ.2.2.1 4 x1.toNatClampNeg))).toNatClampNeg x2) 5 ((((36 : Int32) * x1) + ((3 : Int32) * (σ.2.2.1 4 x1.toNatClampNeg))) + (1 : Int32)).toNatClampNeg x3) 5 ((((36 : Int32) * x1) + ((3 : Int32) * (σ.2.2.1 4 x1.toNatClampNeg))) + (2 : Int32)).toNatClampNeg x4).2.2.1 4 x1.toNatClampNeg) + (1 : Int32))))))))))))) else some ((-3 : Int32), σ)))
set_option maxRecDepth 100000 in
set_option maxHeartbeats 4000000 in
theorem cM_row {l : Launch} {D : va_G} {κ : Nat → ClassId} {ρ : Nat → Nat} {sz : Nat} {N : Nat} {σ : MSt} {x1 : Int32} {x2 : Int32} {x3 : Int32} {x4 : Int32} {q : Int32 × MSt} (h : fM_row N σ x1 x2 x3 x4 = some q) : Met l yX7_row wsX7_row ({ frames := 1, cells := 0, slots := 0, locals := 21 } : Room) (va_Pc [.ref (ρ 40), .int x1, .int x2, .int x3, .int x4] (PM D κ ρ sz σ)) (QM D κ ρ sz q.2 (some (.int q.1))) 0 0 (AM ρ sz) := by
  refine mMetM (ret := (some .int)) (by decide) rfl rfl (Nat.le_of_ble_eq_true rfl) ?_
  intro p e s m below meth c ls C hr hlk hD hP hl
  have hS : va_S (AM ρ s.heap.size) s.heap s.heap [] := va_S.rf
  have hl : lv_has ls 6 [(0, .ref (ρ 40)), (1, .int x1), (2, .int x2), (3, .int x3), (4, .int x4)] := hl
  unfold fM_row at h
  have hx := C.1.1
  have hb := C.1.2.1
  have hts := C.1.2.2.2.2
  have hown := C.1.2.2.2.1
  have k_22 := hts (.fieldLink RX7 22 "PlanCabinetModel" "rows" "[I") (by decide +kernel)
  have k_26 := hts (.fieldLink RX7 26 "PlanCabinetModel" "value" "[I") (by decide +kernel)
  have k_44 := hts (.fieldLink RX7 44 "PlanCabinetModel" "plans" "I") (by decide +kernel)
  have in_7 : ∀ w ∈ wsX70, w ∈ wsX7_row := by decide +kernel
  refine lv_aload_n hx hb dX7_row_0 rfl (lv_at hl 0 rfl) ?_
  refine lv_iload_n hx hb dX7_row_1 rfl (lv_at hl 1 rfl) ?_
  obtain ⟨r_2, e_2, h⟩ := bnd_of h
  refine callP (W.runV (As := [.int x1]) C.1 (cM_isTable e_2) (cwV 1 hts gX7_row_X7_isTable rfl rfl rfl (by decide +kernel) ⟨by decide, by decide⟩) (mPreR C.2 hP _) rfl rfl hl.1 rfl (lv_room (Nat.le_of_ble_eq_true rfl)) dX7_row_2 ⟨Nat.zero_le _, Nat.zero_le _⟩) ?_
  refine lv_if_ne (tgt := 10) hx hb dX7_row_5 (by decide) (fun c_5 => ?_) (fun c_5 => ?_)
  · have h := zz_neg c_5 h
    refine lv_aload_n hx hb dX7_row_10 rfl (lv_at hl 0 rfl) ?_
    refine mG_11 C in_7 hP k_44 dX7_row_11 ?_
    refine lv_if_le (tgt := 20) hx hb dX7_row_14 (by decide) (fun c_14 => ?_) (fun c_14 => ?_)
    · have h := zz_pos c_14 h
      refine lv_aload_n hx hb dX7_row_20 rfl (lv_at hl 0 rfl) ?_
      refine mG_4 C in_7 hP k_22 dX7_row_21 ?_
      refine lv_iload_n hx hb dX7_row_24 rfl (lv_at hl 1 rfl) ?_
      obtain ⟨b_25, h⟩ := chk_of h
      refine mL_4 C hP b_25 dX7_row_25 ?_
      refine lv_bipush (v := (8 : Int32)) hx hb dX7_row_26 (by decide) ?_
      refine lv_icmp_ne (tgt := 34) hx hb dX7_row_28 (by decide) (fun c_28 => ?_) (fun c_28 => ?_)
      · have h := zz_neg c_28 h
        refine lv_bipush (v := (36 : Int32)) hx hb dX7_row_34 (by decide) ?_
        refine lv_iload_n hx hb dX7_row_36 rfl (lv_at hl 1 rfl) ?_
        refine lv_imul hx hb dX7_row_37 ?_
        refine lv_iconst (v := (3 : Int32)) hx hb dX7_row_38 (by decide) ?_
        refine lv_aload_n hx hb dX7_row_39 rfl (lv_at hl 0 rfl) ?_
        refine mG_4 C in_7 hP k_22 dX7_row_40 ?_
        refine lv_iload_n hx hb dX7_row_43 rfl (lv_at hl 1 rfl) ?_
        obtain ⟨b_44, h⟩ := chk_of h
        refine mL_4 C hP b_44 dX7_row_44 ?_
        refine lv_imul hx hb dX7_row_45 ?_
        refine lv_iadd hx hb dX7_row_46 ?_
        refine lv_istore (lv' := [(5, .int (((36 : Int32) * x1) + ((3 : Int32) * (σ.2.2.1 4 x1.toNatClampNeg)))), (0, .ref (ρ 40)), (1, .int x1), (2, .int x2), (3, .int x3), (4, .int x4)]) hx hb dX7_row_47 hl (by decide) rfl (fun ls hl => ?_)
        refine lv_aload_n hx hb dX7_row_49 rfl (lv_at hl 1 rfl) ?_
        refine mG_5 C in_7 hP k_26 dX7_row_50 ?_
        refine lv_iload hx hb dX7_row_53 (lv_at hl 0 rfl) ?_
        refine lv_iload_n hx hb dX7_row_55 rfl (lv_at hl 3 rfl) ?_
        obtain ⟨b_56, h⟩ := chk_of h
        refine mS_5 C hP hD hS b_56 dX7_row_56 (fun H locs hP hS => ?_)
        refine lv_aload_n hx hb dX7_row_57 rfl (lv_at hl 1 rfl) ?_
        refine mG_5 C in_7 hP k_26 dX7_row_58 ?_
        refine lv_iload hx hb dX7_row_61 (lv_at hl 0 rfl) ?_
        refine lv_iconst (v := (1 : Int32)) hx hb dX7_row_63 (by decide) ?_
        refine lv_iadd hx hb dX7_row_64 ?_
        refine lv_iload_n hx hb dX7_row_65 rfl (lv_at hl 4 rfl) ?_
        obtain ⟨b_66, h⟩ := chk_of h
        refine mS_5 C hP hD hS b_66 dX7_row_66 (fun H locs hP hS => ?_)
        refine lv_aload_n hx hb dX7_row_67 rfl (lv_at hl 1 rfl) ?_
        refine mG_5 C in_7 hP k_26 dX7_row_68 ?_
        refine lv_iload hx hb dX7_row_71 (lv_at hl 0 rfl) ?_
        refine lv_iconst (v := (2 : Int32)) hx hb dX7_row_73 (by decide) ?_
        refine lv_iadd hx hb dX7_row_74 ?_
        refine lv_iload hx hb dX7_row_75 (lv_at hl 5 rfl) ?_
        obtain ⟨b_77, h⟩ := chk_of h
        refine mS_5 C hP hD hS b_77 dX7_row_77 (fun H locs hP hS => ?_)
        refine lv_aload_n hx hb dX7_row_78 rfl (lv_at hl 1 rfl) ?_
        refine mG_4 C in_7 hP k_22 dX7_row_79 ?_
        refine lv_iload_n hx hb dX7_row_82 rfl (lv_at hl 2 rfl) ?_
        refine lv_dup2_11 hx hb dX7_row_83 rfl rfl ?_
        obtain ⟨b_84, h⟩ := chk_of h
        refine mL_4 C hP b_84 dX7_row_84 ?_
        refine lv_iconst (v := (1 : Int32)) hx hb dX7_row_85 (by decide) ?_
        refine lv_iadd hx hb dX7_row_86 ?_
        obtain ⟨b_87, h⟩ := chk_of h
        refine mS_4 C hP hD hS b_87 dX7_row_87 (fun H locs hP hS => ?_)
        refine lv_aload_n hx hb dX7_row_88 rfl (lv_at hl 1 rfl) ?_
        refine mG_4 C in_7 hP k_22 dX7_row_89 ?_
        refine lv_iload_n hx hb dX7_row_92 rfl (lv_at hl 2 rfl) ?_
        obtain ⟨b_93, h⟩ := chk_of h
        refine mL_4 C hP b_93 dX7_row_93 ?_
        refine lv_iconst (v := (1 : Int32)) hx hb dX7_row_94 (by decide) ?_
        refine lv_isub hx hb dX7_row_95 ?_
        exact W.iret hx hb hr (fun t ht hW => ⟨by rw [← some_of h], by rw [ht, ← some_of h]; exact hP, hS.F ht⟩) hS.2.2 dX7_row_96
      · have h := zz_pos c_28 h
        refine lv_bipush (v := (-4 : Int32)) hx hb dX7_row_31 (by decide) ?_
        exact W.iret hx hb hr (fun t ht hW => ⟨by rw [← some_of h], by rw [ht, ← some_of h]; exact hP, hS.F ht⟩) hS.2.2 dX7_row_33
    · have h := zz_neg c_14 h
      refine lv_bipush (v := (-3 : Int32)) hx hb dX7_row_17 (by decide) ?_
      exact W.iret hx hb hr (fun t ht hW => ⟨by rw [← some_of h], by rw [ht, ← some_of h]; exact hP, hS.F ht⟩) hS.2.2 dX7_row_19
  · have h := zz_pos c_5 h
    refine lv_iconst (v := (-1 : Int32)) hx hb dX7_row_8 (by decide) ?_
    exact W.iret hx hb hr (fun t ht hW => ⟨by rw [← some_of h], by rw [ht, ← some_of h]; exact hP, hS.F ht⟩) hS.2.2 dX7_row_9
def fM_pair_J76 (N : Nat) (σ : MSt) (x1 : Int32) (x2 : Int32) (x3 : Int32) (x4 : Int32) (x5 : Int32) : Option (Int32 × MSt) := (if (σ.1 1) = (4 : Int32) then some ((-4 : Int32), σ) else chk (σ.1 1) 4 (chk ((sA σ 6 (σ.1 1).toNatClampNeg x1).1 1) 4 (chk ((sA (sA σ 6 (σ.1 1).toNatClampNeg x1) 7 ((sA σ 6 (σ.1 1).toNatClampNeg x1).1 1).toNatClampNeg x2).1 1) 4 (chk ((sA (sA (sA σ 6 (σ.1 1).toNatClampNeg x1) 7 ((sA σ 6 (σ.1 1).toNatClampNeg x1).1 1).toNatClampNeg x2) 8 ((sA (sA σ 6 (σ.1 1).toNatClampNeg x1) 7 ((sA σ 6 (σ.1 1).toNatClampNeg x1).1 1).toNatClampNeg x2).1 1).toNatClampNeg x3).1 1) 4 (chk ((sA (sA (sA (sA σ 6 (σ.1 1).toNatClampNeg x1) 7 ((sA σ 6 (σ.1 1).toNatClampNeg x1).1 1).toNatClampNeg x2) 8 ((sA (sA σ 6 (σ.1 1).toNatClampNeg x1) 7 ((sA σ 6 (σ.1 1).toNatClampNeg x1).1 1).toNatClampNeg x2).1 1).toNatClampNeg x3) 9 ((sA (sA (sA σ 6 (σ.1 1).toNatClampNeg x1) 7 ((sA σ 6 (σ.1 1).toNatClampNeg x1).1 1).toNatClampNeg x2) 8 ((sA (sA σ 6 (σ.1 1).toNatClampNeg x1) 7 ((sA σ 6 (σ.1 1).toNatClampNeg x1).1 1).toNatClampNeg x2).1 1).toNatClampNeg x3).1 1).toNatClampNeg x4).1 1) 4 (some ((((sI (sA (sA (sA (sA (sA σ 6 (σ.1 1).toNatClampNeg x1) 7 ((sA σ 6 (σ.1 1).toNatClampNeg x1).1 1).toNatClampNeg x2) 8 ((sA (sA σ 6 (σ.1 1).toNatClampNeg x1) 7 ((sA σ 6 (σ.1 1).toNatClampNeg x1).1 1).toNatClampNeg x2).1 1).toNatClampNeg x3) 9 ((sA (sA (sA σ 6 (σ.1 1).toNatClampNeg x1) 7 ((sA σ 6 (σ.1 1).toNatClampNeg x1).1 1).toNatClampNeg x2) 8 ((sA (sA σ 6 (σ.1 1).toNatClampNeg x1) 7 ((sA σ 6 (σ.1 1).toNatClampNeg x1).1 1).toNatClampNeg x2).1 1).toNatClampNeg x3).1 1).toNatClampNeg x4) 10 ((sA (sA (sA (sA σ 6 (σ.1 1).toNatClampNeg x1) 7 ((sA σ 6 (σ.1 1).toNatClampNeg x1).1 1).toNatClampNeg x2) 8 ((sA (sA σ 6 (σ.1 1).toNatClampNeg x1) 7 ((sA σ 6 (σ.1 1).toNatClampNeg x1).1 1).toNatClampNeg x2).1 1).toNatClampNeg x3) 9 ((sA (sA (sA σ 6 (σ.1 1).toNatClampNeg x1) 7 ((sA σ 6 (σ.1 1).toNatClampNeg x1).1 1).toNatClampNeg x2) 8 ((sA (sA σ 6 (σ.1 1).toNatClampNeg x1) 7 ((sA σ 6 (σ.1 1).toNatClampNeg x1).1 1).toNatClampNeg x2).1 1).toNatClampNeg x3).1 1).toNatClampNeg x4).1 1).toNatClampNeg x5) 1 (((sA (sA (sA (sA (sA σ 6 (σ.1 1).toNatClampNeg x1) 7 ((sA σ 6 (σ.1 1).toNatClampNeg x1).1 1).toNatClampNeg x2) 8 ((sA (sA σ 6 (σ.1 1).toNatClampNeg x1) 7 ((sA σ 6 (σ.1 1).toNatClampNeg x1).1 1).toNatClampNeg x2).1 1).toNatClampNeg x3) 9 ((sA (sA (sA σ 6 (σ.1 1).toNatClampNeg x1) 7 ((sA σ 6 (σ.1 1).toNatClampNeg x1).1 1).toNatClampNeg x2) 8 ((sA (sA σ 6 (σ.1 1).toNatClampNeg x1) 7 ((sA σ 6 (σ.1 1).toNatClampNeg x1).1 1).toNatClampNeg x2).1 1).toNatClampNeg x3).1 1).toNatClampNeg x4) 10 ((sA (sA (sA (sA σ 6 (σ.1 1).toNatClampNeg x1) 7 ((sA σ 6 (σ.1 1).toNatClampNeg x1).1 1).toNatClampNeg x2) 8 ((sA (sA σ 6 (σ.1 1).toNatClampNeg x1) 7 ((sA σ 6 (σ.1 1).toNatClampNeg x1).1 1).toNatClampNeg x2).1 1).toNatClampNeg x3) 9 ((sA (sA (sA σ 6 (σ.1 1).toNatClampNeg x1) 7 ((sA σ 6 (σ.1 1).toNatClampNeg x1).1 1).toNatClampNeg x2) 8 ((sA (sA σ 6 (σ.1 1).toNatClampNeg x1) 7 ((sA σ 6 (σ.1 1).toNatClampNeg x1).1 1).toNatClampNeg x2).1 1).toNatClampNeg x3).1 1).toNatClampNeg x4).1 1).toNatClampNeg x5).1 1) + (1 : Int32))).1 1) - (1 : Int32)), (sI (sA (sA (sA (sA (sA σ 6 (σ.1 1).toNatClampNeg x1) 7 ((sA σ 6 (σ.1 1).toNatClampNeg x1).1 1).toNatClampNeg x2) 8 ((sA (sA σ 6 (σ.1 1).toNatClampNeg x1) 7 ((sA σ 6 (σ.1 1).toNatClampNeg x1).1 1).toNatClampNeg x2).1 1).toNatClampNeg x3) 9 ((sA (sA (sA σ 6 (σ.1 1).toNatClampNeg x1) 7 ((sA σ 6 (σ.1 1).toNatClampNeg x1).1 1).toNatClampNeg x2) 8 ((sA (sA σ 6 (σ.1 1).toNatClampNeg x1) 7 ((sA σ 6 (σ.1 1).toNatClampNeg x1).1 1).toNatClampNeg x2).1 1).toNatClampNeg x3).1 1).toNatClampNeg x4) 10 ((sA (sA (sA (sA σ 6 (σ.1 1).toNatClampNeg x1) 7 ((sA σ 6 (σ.1 1).toNatClampNeg x1).1 1).toNatClampNeg x2) 8 ((sA (sA σ 6 (σ.1 1).toNatClampNeg x1) 7 ((sA σ 6 (σ.1 1).toNatClampNeg x1).1 1).toNatClampNeg x2).1 1).toNatClampNeg x3) 9 ((sA (sA (sA σ 6 (σ.1 1).toNatClampNeg x1) 7 ((sA σ 6 (σ.1 1).toNatClampNeg x1).1 1).toNatClampNeg x2) 8 ((sA (sA σ 6 (σ.1 1).toNatClampNeg x1) 7 ((sA σ 6 (σ.1 1).toNatClampNeg x1).1 1).toNatClampNeg x2).1 1).toNatClampNeg x3).1 1).toNatClampNeg x4).1 1).toNatClampNeg x5) 1 (((sA (sA (sA (sA (sA σ 6 (σ.1 1).toNatClampNeg x1) 7 ((sA σ 6 (σ.1 1).toNatClampNeg x1).1 1).toNatClampNeg x2) 8 ((sA (sA σ 6 (σ.1 1).toNatClampNeg x1) 7 ((sA σ 6 (σ.1 1).toNatClampNeg x1).1 1).toNatClampNeg x2).1 1).toNatClampNeg x3) 9 ((sA (sA (sA σ 6 (σ.1 1).toNatClampNeg x1) 7 ((sA σ 6 (σ.1 1).toNatClampNeg x1).1 1).toNatClampNeg x2) 8 ((sA (sA σ 6 (σ.1 1).toNatClampNeg x1) 7 ((sA σ 6 (σ.1 1).toNatClampNeg x1).1 1).toNatClampNeg x2).1 1).toNatClampNeg x3).1 1).toNatClampNeg x4) 10 ((sA (sA (sA (sA σ 6 (σ.1 1).toNatClampNeg x1) 7 ((sA σ 6 (σ.1 1).toNatClampNeg x1).1 1).toNatClampNeg x2) 8 ((sA (sA σ 6 (σ.1 1).toNatClampNeg x1) 7 ((sA σ 6 (σ.1 1).toNatClampNeg x1).1 1).toNatClampNeg x2).1 1).toNatClampNeg x3) 9 ((sA (sA (sA σ 6 (σ.1 1).toNatClampNeg x1) 7 ((sA σ 6 (σ.1 1).toNatClampNeg x1).1 1).toNatClampNeg x2) 8 ((sA (sA σ 6 (σ.1 1).toNatClampNeg x1) 7 ((sA σ 6 (σ.1 1).toNatClampNeg x1).1 1).toNatClampNeg x2).1 1).toNatClampNeg x3).1 1).toNatClampNeg x4).1 1).toNatClampNeg x5).1 1) + (1 : Int32))))))))))
def fM_pair (N : Nat) (σ : MSt) (x1 : Int32) (x2 : Int32) (x3 : Int32) (x4 : Int32) (x5 : Int32) : Option (Int32 × MSt) := (fM_isTable N σ x1).bind fun r_2 => (if r_2 = 0 then some ((-1 : Int32), σ) else (fM_isColumn N σ x2).bind fun r_10 => (if r_10 = 0 then some ((-1 : Int32), σ) else (fM_isTable N σ x3).bind fun r_18 => (if r_18 = 0 then some ((-1 : Int32), σ) else (fM_isColumn N σ x4).bind fun r_27 => (if r_27 = 0 then some ((-1 : Int32), σ) else (if x3 ≤ x1 then some ((-2 : Int32), σ) else (if x5 < 0 then some ((-2 : Int32), σ) else (if x5 ≤ (4 : Int32) then (if 0 < (σ.1 11) then some ((-3 : Int32), σ) else (if x5 = 0 then (fM_open N σ).bind fun r_67 => (if r_67 < 0 then fM_pair_J76 N σ x1 x2 x3 x4 x5 else some ((-3 : Int32), σ)) else fM_pair_J76 N σ x1 x2 x3 x4 x5)) else some ((-2 : Int32), σ))))))))
set_option maxRecDepth 100000 in
set_option maxHeartbeats 4000000 in
theorem wM_pair_J76 {p : Program} {l : Launch} {e : Env} {s : State} {m : MethodId} {args : Array Value} {below : List Frame} {meth : Method} {c : Code} {D : va_G} {κ : Nat → ClassId} {ρ : Nat → Nat} (C : MC p m c cX7_pair 6 s args wsX7_pair D κ) (hr : meth.sig.returnType = (some .int)) (hlk : meth.locks = false) (hD : DM (AM ρ s.heap.size) ρ) {N : Nat} {q : Int32 × MSt} : ∀ (σ : MSt) (x1 : Int32) (x2 : Int32) (x3 : Int32) (x4 : Int32) (x5 : Int32) (H : Heap) (locs : List Loc) (ls : Array Slot), fM_pair_J76 N σ x1 x2 x3 x4 x5 = some q → va_P D vwCl (cellsM κ ρ σ) H → va_S (AM ρ s.heap.size) s.heap H locs → lv_has ls 6 [(0, .ref (ρ 40)), (1, .int x1), (2, .int x2), (3, .int x3), (4, .int x4), (5, .int x5)] → W p l e ({ frames := 1, cells := 0, slots := 0, locals := 21 } : Room) s m args below meth c H locs 0 0 (MQ below (QM D κ ρ s.heap.size q.2 (some (.int q.1))) args s 0 0 (AM ρ s.heap.size)) (F0 m 76 ls []) := by
  have hx := C.1.1
  have hb := C.1.2.1
  have hts := C.1.2.2.2.2
  have hown := C.1.2.2.2.1
  have k_13 := hts (.fieldLink RX7 13 "PlanCabinetModel" "pairings" "I") (by decide +kernel)
  have k_29 := hts (.fieldLink RX7 29 "PlanCabinetModel" "pairT" "[I") (by decide +kernel)
  have k_32 := hts (.fieldLink RX7 32 "PlanCabinetModel" "pairC" "[I") (by decide +kernel)
  have k_35 := hts (.fieldLink RX7 35 "PlanCabinetModel" "pairU" "[I") (by decide +kernel)
  have k_38 := hts (.fieldLink RX7 38 "PlanCabinetModel" "pairO" "[I") (by decide +kernel)
  have k_41 := hts (.fieldLink RX7 41 "PlanCabinetModel" "share" "[I") (by decide +kernel)
  have in_7 : ∀ w ∈ wsX70, w ∈ wsX7_pair := by decide +kernel
  intro σ x1 x2 x3 x4 x5 H locs ls h hP hS hl
  unfold fM_pair_J76 at h
  refine lv_aload_n hx hb dX7_pair_76 rfl (lv_at hl 0 rfl) ?_
  refine mG_1 C in_7 hP k_13 dX7_pair_77 ?_
  refine lv_iconst (v := (4 : Int32)) hx hb dX7_pair_80 (by decide) ?_
  refine lv_icmp_ne (tgt := 87) hx hb dX7_pair_81 (by decide) (fun c_81 => ?_) (fun c_81 => ?_)
  · have h := zz_neg c_81 h
    refine lv_aload_n hx hb dX7_pair_87 rfl (lv_at hl 0 rfl) ?_
    refine mG_6 C in_7 hP k_29 dX7_pair_88 ?_
    refine lv_aload_n hx hb dX7_pair_91 rfl (lv_at hl 0 rfl) ?_
    refine mG_1 C in_7 hP k_13 dX7_pair_92 ?_
    refine lv_iload_n hx hb dX7_pair_95 rfl (lv_at hl 1 rfl) ?_
    obtain ⟨b_96, h⟩ := chk_of h
    refine mS_6 C hP hD hS b_96 dX7_pair_96 (fun H locs hP hS => ?_)
    refine lv_aload_n hx hb dX7_pair_97 rfl (lv_at hl 0 rfl) ?_
    refine mG_7 C in_7 hP k_32 dX7_pair_98 ?_
    refine lv_aload_n hx hb dX7_pair_101 rfl (lv_at hl 0 rfl) ?_
    refine mG_1 C in_7 hP k_13 dX7_pair_102 ?_
    refine lv_iload_n hx hb dX7_pair_105 rfl (lv_at hl 2 rfl) ?_
    obtain ⟨b_106, h⟩ := chk_of h
    refine mS_7 C hP hD hS b_106 dX7_pair_106 (fun H locs hP hS => ?_)
    refine lv_aload_n hx hb dX7_pair_107 rfl (lv_at hl 0 rfl) ?_
    refine mG_8 C in_7 hP k_35 dX7_pair_108 ?_
    refine lv_aload_n hx hb dX7_pair_111 rfl (lv_at hl 0 rfl) ?_
    refine mG_1 C in_7 hP k_13 dX7_pair_112 ?_
    refine lv_iload_n hx hb dX7_pair_115 rfl (lv_at hl 3 rfl) ?_
    obtain ⟨b_116, h⟩ := chk_of h
    refine mS_8 C hP hD hS b_116 dX7_pair_116 (fun H locs hP hS => ?_)
    refine lv_aload_n hx hb dX7_pair_117 rfl (lv_at hl 0 rfl) ?_
    refine mG_9 C in_7 hP k_38 dX7_pair_118 ?_
    refine lv_aload_n hx hb dX7_pair_121 rfl (lv_at hl 0 rfl) ?_
    refine mG_1 C in_7 hP k_13 dX7_pair_122 ?_
    refine lv_iload hx hb dX7_pair_125 (lv_at hl 4 rfl) ?_
    obtain ⟨b_127, h⟩ := chk_of h
    refine mS_9 C hP hD hS b_127 dX7_pair_127 (fun H locs hP hS => ?_)
    refine lv_aload_n hx hb dX7_pair_128 rfl (lv_at hl 0 rfl) ?_
    refine mG_10 C in_7 hP k_41 dX7_pair_129 ?_
    refine lv_aload_n hx hb dX7_pair_132 rfl (lv_at hl 0 rfl) ?_
    refine mG_1 C in_7 hP k_13 dX7_pair_133 ?_
    refine lv_iload hx hb dX7_pair_136 (lv_at hl 5 rfl) ?_
    obtain ⟨b_138, h⟩ := chk_of h
    refine mS_10 C hP hD hS b_138 dX7_pair_138 (fun H locs hP hS => ?_)
    refine lv_aload_n hx hb dX7_pair_139 rfl (lv_at hl 0 rfl) ?_
    refine lv_dup hx hb dX7_pair_140 rfl ?_
    refine mG_1 C in_7 hP k_13 dX7_pair_141 ?_
    refine lv_iconst (v := (1 : Int32)) hx hb dX7_pair_144 (by decide) ?_
    refine lv_iadd hx hb dX7_pair_145 ?_
    refine mP_1 C in_7 hP hD hS k_13 dX7_pair_146 (fun H locs hP hS => ?_)
    refine lv_aload_n hx hb dX7_pair_149 rfl (lv_at hl 0 rfl) ?_
    refine mG_1 C in_7 hP k_13 dX7_pair_150 ?_
    refine lv_iconst (v := (1 : Int32)) hx hb dX7_pair_153 (by decide) ?_
    refine lv_isub hx hb dX7_pair_154 ?_
    exact W.iret hx hb hr (fun t ht hW => ⟨by rw [← some_of h], by rw [ht, ← some_of h]; exact hP, hS.F ht⟩) hS.2.2 dX7_pair_155
  · have h := zz_pos c_81 h
    refine lv_bipush (v := (-4 : Int32)) hx hb dX7_pair_84 (by decide) ?_
    exact W.iret hx hb hr (fun t ht hW => ⟨by rw [← some_of h], by rw [ht, ← some_of h]; exact hP, hS.F ht⟩) hS.2.2 dX7_pair_86
set_option maxRecDepth 100000 in
set_option maxHeartbeats 4000000 in
theorem cM_pair {l : Launch} {D : va_G} {κ : Nat → ClassId} {ρ : Nat → Nat} {sz : Nat} {N : Nat} {σ : MSt} {x1 : Int32} {x2 : Int32} {x3 : Int32} {x4 : Int32} {x5 : Int32} {q : Int32 × MSt} (h : fM_pair N σ x1 x2 x3 x4 x5 = some q) : Met l yX7_pair wsX7_pair ({ frames := 1, cells := 0, slots := 0, locals := 21 } : Room) (va_Pc [.ref (ρ 40), .int x1, .int x2, .int x3, .int x4, .int x5] (PM D κ ρ sz σ)) (QM D κ ρ sz q.2 (some (.int q.1))) 0 0 (AM ρ sz) := by
  refine mMetM (ret := (some .int)) (by decide) rfl rfl (Nat.le_of_ble_eq_true rfl) ?_
  intro p e s m below meth c ls C hr hlk hD hP hl
  have hS : va_S (AM ρ s.heap.size) s.heap s.heap [] := va_S.rf
  have hl : lv_has ls 6 [(0, .ref (ρ 40)), (1, .int x1), (2, .int x2), (3, .int x3), (4, .int x4), (5, .int x5)] := hl
  unfold fM_pair at h
  have hx := C.1.1
  have hb := C.1.2.1
  have hts := C.1.2.2.2.2
  have hown := C.1.2.2.2.1
  have k_44 := hts (.fieldLink RX7 44 "PlanCabinetModel" "plans" "I") (by decide +kernel)
  have in_7 : ∀ w ∈ wsX70, w ∈ wsX7_pair := by decide +kernel
  refine lv_aload_n hx hb dX7_pair_0 rfl (lv_at hl 0 rfl) ?_
  refine lv_iload_n hx hb dX7_pair_1 rfl (lv_at hl 1 rfl) ?_
  obtain ⟨r_2, e_2, h⟩ := bnd_of h
  refine callP (W.runV (As := [.int x1]) C.1 (cM_isTable e_2) (cwV 1 hts gX7_pair_X7_isTable rfl rfl rfl (by decide +kernel) ⟨by decide, by decide⟩) (mPreR C.2 hP _) rfl rfl hl.1 rfl (lv_room (Nat.le_of_ble_eq_true rfl)) dX7_pair_2 ⟨Nat.zero_le _, Nat.zero_le _⟩) ?_
  refine lv_if_eq (tgt := 33) hx hb dX7_pair_5 (by decide) (fun c_5 => ?_) (fun c_5 => ?_)
  · have h := zz_pos c_5 h
    refine lv_iconst (v := (-1 : Int32)) hx hb dX7_pair_33 (by decide) ?_
    exact W.iret hx hb hr (fun t ht hW => ⟨by rw [← some_of h], by rw [ht, ← some_of h]; exact hP, hS.F ht⟩) hS.2.2 dX7_pair_34
  · have h := zz_neg c_5 h
    refine lv_aload_n hx hb dX7_pair_8 rfl (lv_at hl 0 rfl) ?_
    refine lv_iload_n hx hb dX7_pair_9 rfl (lv_at hl 2 rfl) ?_
    obtain ⟨r_10, e_10, h⟩ := bnd_of h
    refine callP (W.runV (As := [.int x2]) C.1 (cM_isColumn e_10) (cwV 1 hts gX7_pair_X7_isColumn rfl rfl rfl (by decide +kernel) ⟨by decide, by decide⟩) (mPreR C.2 hP _) rfl rfl hl.1 rfl (lv_room (Nat.le_of_ble_eq_true rfl)) dX7_pair_10 ⟨Nat.zero_le _, Nat.zero_le _⟩) ?_
    refine lv_if_eq (tgt := 33) hx hb dX7_pair_13 (by decide) (fun c_13 => ?_) (fun c_13 => ?_)
    · have h := zz_pos c_13 h
      refine lv_iconst (v := (-1 : Int32)) hx hb dX7_pair_33 (by decide) ?_
      exact W.iret hx hb hr (fun t ht hW => ⟨by rw [← some_of h], by rw [ht, ← some_of h]; exact hP, hS.F ht⟩) hS.2.2 dX7_pair_34
    · have h := zz_neg c_13 h
      refine lv_aload_n hx hb dX7_pair_16 rfl (lv_at hl 0 rfl) ?_
      refine lv_iload_n hx hb dX7_pair_17 rfl (lv_at hl 3 rfl) ?_
      obtain ⟨r_18, e_18, h⟩ := bnd_of h
      refine callP (W.runV (As := [.int x3]) C.1 (cM_isTable e_18) (cwV 1 hts gX7_pair_X7_isTable rfl rfl rfl (by decide +kernel) ⟨by decide, by decide⟩) (mPreR C.2 hP _) rfl rfl hl.1 rfl (lv_room (Nat.le_of_ble_eq_true rfl)) dX7_pair_18 ⟨Nat.zero_le _, Nat.zero_le _⟩) ?_
      refine lv_if_eq (tgt := 33) hx hb dX7_pair_21 (by decide) (fun c_21 => ?_) (fun c_21 => ?_)
      · have h := zz_pos c_21 h
        refine lv_iconst (v := (-1 : Int32)) hx hb dX7_pair_33 (by decide) ?_
        exact W.iret hx hb hr (fun t ht hW => ⟨by rw [← some_of h], by rw [ht, ← some_of h]; exact hP, hS.F ht⟩) hS.2.2 dX7_pair_34
      · have h := zz_neg c_21 h
        refine lv_aload_n hx hb dX7_pair_24 rfl (lv_at hl 0 rfl) ?_
        refine lv_iload hx hb dX7_pair_25 (lv_at hl 4 rfl) ?_
        obtain ⟨r_27, e_27, h⟩ := bnd_of h
        refine callP (W.runV (As := [.int x4]) C.1 (cM_isColumn e_27) (cwV 1 hts gX7_pair_X7_isColumn rfl rfl rfl (by decide +kernel) ⟨by decide, by decide⟩) (mPreR C.2 hP _) rfl rfl hl.1 rfl (lv_room (Nat.le_of_ble_eq_true rfl)) dX7_pair_27 ⟨Nat.zero_le _, Nat.zero_le _⟩) ?_
        refine lv_if_ne (tgt := 35) hx hb dX7_pair_30 (by decide) (fun c_30 => ?_) (fun c_30 => ?_)
        · have h := zz_neg c_30 h
          refine lv_iload_n hx hb dX7_pair_35 rfl (lv_at hl 3 rfl) ?_
          refine lv_iload_n hx hb dX7_pair_36 rfl (lv_at hl 1 rfl) ?_
          refine lv_icmp_le (tgt := 51) hx hb dX7_pair_37 (by decide) (fun c_37 => ?_) (fun c_37 => ?_)
          · have h := zz_pos c_37 h
            refine lv_bipush (v := (-2 : Int32)) hx hb dX7_pair_51 (by decide) ?_
            exact W.iret hx hb hr (fun t ht hW => ⟨by rw [← some_of h], by rw [ht, ← some_of h]; exact hP, hS.F ht⟩) hS.2.2 dX7_pair_53
          · have h := zz_neg c_37 h
            refine lv_iload hx hb dX7_pair_40 (lv_at hl 5 rfl) ?_
            refine lv_if_lt (tgt := 51) hx hb dX7_pair_42 (by decide) (fun c_42 => ?_) (fun c_42 => ?_)
            · have h := zz_pos c_42 h
              refine lv_bipush (v := (-2 : Int32)) hx hb dX7_pair_51 (by decide) ?_
              exact W.iret hx hb hr (fun t ht hW => ⟨by rw [← some_of h], by rw [ht, ← some_of h]; exact hP, hS.F ht⟩) hS.2.2 dX7_pair_53
            · have h := zz_neg c_42 h
              refine lv_iload hx hb dX7_pair_45 (lv_at hl 5 rfl) ?_
              refine lv_iconst (v := (4 : Int32)) hx hb dX7_pair_47 (by decide) ?_
              refine lv_icmp_le (tgt := 54) hx hb dX7_pair_48 (by decide) (fun c_48 => ?_) (fun c_48 => ?_)
              · have h := zz_pos c_48 h
                refine lv_aload_n hx hb dX7_pair_54 rfl (lv_at hl 0 rfl) ?_
                refine mG_11 C in_7 hP k_44 dX7_pair_55 ?_
                refine lv_if_gt (tgt := 73) hx hb dX7_pair_58 (by decide) (fun c_58 => ?_) (fun c_58 => ?_)
                · have h := zz_pos c_58 h
                  refine lv_bipush (v := (-3 : Int32)) hx hb dX7_pair_73 (by decide) ?_
                  exact W.iret hx hb hr (fun t ht hW => ⟨by rw [← some_of h], by rw [ht, ← some_of h]; exact hP, hS.F ht⟩) hS.2.2 dX7_pair_75
                · have h := zz_neg c_58 h
                  refine lv_iload hx hb dX7_pair_61 (lv_at hl 5 rfl) ?_
                  refine lv_if_ne (tgt := 76) hx hb dX7_pair_63 (by decide) (fun c_63 => ?_) (fun c_63 => ?_)
                  · have h := zz_neg c_63 h
                    exact wM_pair_J76 C hr hlk hD _ _ _ _ _ _ _ _ _ h hP hS (lv_sub hl [0, 1, 2, 3, 4, 5] rfl)
                  · have h := zz_pos c_63 h
                    refine lv_aload_n hx hb dX7_pair_66 rfl (lv_at hl 0 rfl) ?_
                    obtain ⟨r_67, e_67, h⟩ := bnd_of h
                    refine callP (W.runV (As := []) C.1 (cM_open e_67) (cwV 0 hts gX7_pair_X7_open rfl rfl rfl (by decide +kernel) ⟨by decide, by decide⟩) (mPreR C.2 hP _) rfl rfl hl.1 rfl (lv_room (Nat.le_of_ble_eq_true rfl)) dX7_pair_67 ⟨Nat.zero_le _, Nat.zero_le _⟩) ?_
                    refine lv_if_lt (tgt := 76) hx hb dX7_pair_70 (by decide) (fun c_70 => ?_) (fun c_70 => ?_)
                    · have h := zz_pos c_70 h
                      exact wM_pair_J76 C hr hlk hD _ _ _ _ _ _ _ _ _ h hP hS (lv_sub hl [0, 1, 2, 3, 4, 5] rfl)
                    · have h := zz_neg c_70 h
                      refine lv_bipush (v := (-3 : Int32)) hx hb dX7_pair_73 (by decide) ?_
                      exact W.iret hx hb hr (fun t ht hW => ⟨by rw [← some_of h], by rw [ht, ← some_of h]; exact hP, hS.F ht⟩) hS.2.2 dX7_pair_75
              · have h := zz_neg c_48 h
                refine lv_bipush (v := (-2 : Int32)) hx hb dX7_pair_51 (by decide) ?_
                exact W.iret hx hb hr (fun t ht hW => ⟨by rw [← some_of h], by rw [ht, ← some_of h]; exact hP, hS.F ht⟩) hS.2.2 dX7_pair_53
        · have h := zz_pos c_30 h
          refine lv_iconst (v := (-1 : Int32)) hx hb dX7_pair_33 (by decide) ?_
          exact W.iret hx hb hr (fun t ht hW => ⟨by rw [← some_of h], by rw [ht, ← some_of h]; exact hP, hS.F ht⟩) hS.2.2 dX7_pair_34
def fM_order_J23 (N : Nat) (σ : MSt) (x1 : Int32) (x2 : Int32) : Option (Int32 × MSt) := (if (σ.1 11) ≤ 0 then (if 0 ≤ x1 then some ((0 : Int32), (sI (sI σ 2 x1) 3 x2)) else some ((0 : Int32), (sI (sI σ 2 x1) 3 (0 : Int32)))) else some ((-3 : Int32), σ))
def fM_order (N : Nat) (σ : MSt) (x1 : Int32) (x2 : Int32) : Option (Int32 × MSt) := (if x1 = (-1 : Int32) then fM_order_J23 N σ x1 x2 else (fM_isTable N σ x1).bind fun r_7 => (if r_7 = 0 then some ((-1 : Int32), σ) else (fM_isColumn N σ x2).bind fun r_15 => (if r_15 = 0 then some ((-1 : Int32), σ) else fM_order_J23 N σ x1 x2)))
set_option maxRecDepth 100000 in
set_option maxHeartbeats 4000000 in
theorem wM_order_J23 {p : Program} {l : Launch} {e : Env} {s : State} {m : MethodId} {args : Array Value} {below : List Frame} {meth : Method} {c : Code} {D : va_G} {κ : Nat → ClassId} {ρ : Nat → Nat} (C : MC p m c cX7_order 3 s args wsX7_order D κ) (hr : meth.sig.returnType = (some .int)) (hlk : meth.locks = false) (hD : DM (AM ρ s.heap.size) ρ) {N : Nat} {q : Int32 × MSt} : ∀ (σ : MSt) (x1 : Int32) (x2 : Int32) (H : Heap) (locs : List Loc) (ls : Array Slot), fM_order_J23 N σ x1 x2 = some q → va_P D vwCl (cellsM κ ρ σ) H → va_S (AM ρ s.heap.size) s.heap H locs → lv_has ls 3 [(0, .ref (ρ 40)), (1, .int x1), (2, .int x2)] → W p l e ({ frames := 1, cells := 0, slots := 0, locals := 21 } : Room) s m args below meth c H locs 0 0 (MQ below (QM D κ ρ s.heap.size q.2 (some (.int q.1))) args s 0 0 (AM ρ s.heap.size)) (F0 m 23 ls []) := by
  have hx := C.1.1
  have hb := C.1.2.1
  have hts := C.1.2.2.2.2
  have hown := C.1.2.2.2.1
  have k_16 := hts (.fieldLink RX7 16 "PlanCabinetModel" "orderTable" "I") (by decide +kernel)
  have k_19 := hts (.fieldLink RX7 19 "PlanCabinetModel" "orderColumn" "I") (by decide +kernel)
  have k_44 := hts (.fieldLink RX7 44 "PlanCabinetModel" "plans" "I") (by decide +kernel)
  have in_7 : ∀ w ∈ wsX70, w ∈ wsX7_order := by decide +kernel
  intro σ x1 x2 H locs ls h hP hS hl
  unfold fM_order_J23 at h
  refine lv_aload_n hx hb dX7_order_23 rfl (lv_at hl 0 rfl) ?_
  refine mG_11 C in_7 hP k_44 dX7_order_24 ?_
  refine lv_if_le (tgt := 33) hx hb dX7_order_27 (by decide) (fun c_27 => ?_) (fun c_27 => ?_)
  · have h := zz_pos c_27 h
    refine lv_aload_n hx hb dX7_order_33 rfl (lv_at hl 0 rfl) ?_
    refine lv_iload_n hx hb dX7_order_34 rfl (lv_at hl 1 rfl) ?_
    refine mP_2 C in_7 hP hD hS k_16 dX7_order_35 (fun H locs hP hS => ?_)
    refine lv_aload_n hx hb dX7_order_38 rfl (lv_at hl 0 rfl) ?_
    refine lv_iload_n hx hb dX7_order_39 rfl (lv_at hl 1 rfl) ?_
    refine lv_if_ge (tgt := 47) hx hb dX7_order_40 (by decide) (fun c_40 => ?_) (fun c_40 => ?_)
    · have h := zz_pos c_40 h
      refine lv_iload_n hx hb dX7_order_47 rfl (lv_at hl 2 rfl) ?_
      refine mP_3 C in_7 hP hD hS k_19 dX7_order_48 (fun H locs hP hS => ?_)
      refine lv_iconst (v := (0 : Int32)) hx hb dX7_order_51 (by decide) ?_
      exact W.iret hx hb hr (fun t ht hW => ⟨by rw [← some_of h], by rw [ht, ← some_of h]; exact hP, hS.F ht⟩) hS.2.2 dX7_order_52
    · have h := zz_neg c_40 h
      refine lv_iconst (v := (0 : Int32)) hx hb dX7_order_43 (by decide) ?_
      refine lv_goto (tgt := 48) hx hb dX7_order_44 (by decide) ?_
      refine mP_3 C in_7 hP hD hS k_19 dX7_order_48 (fun H locs hP hS => ?_)
      refine lv_iconst (v := (0 : Int32)) hx hb dX7_order_51 (by decide) ?_
      exact W.iret hx hb hr (fun t ht hW => ⟨by rw [← some_of h], by rw [ht, ← some_of h]; exact hP, hS.F ht⟩) hS.2.2 dX7_order_52
  · have h := zz_neg c_27 h
    refine lv_bipush (v := (-3 : Int32)) hx hb dX7_order_30 (by decide) ?_
    exact W.iret hx hb hr (fun t ht hW => ⟨by rw [← some_of h], by rw [ht, ← some_of h]; exact hP, hS.F ht⟩) hS.2.2 dX7_order_32
set_option maxRecDepth 100000 in
set_option maxHeartbeats 4000000 in
theorem cM_order {l : Launch} {D : va_G} {κ : Nat → ClassId} {ρ : Nat → Nat} {sz : Nat} {N : Nat} {σ : MSt} {x1 : Int32} {x2 : Int32} {q : Int32 × MSt} (h : fM_order N σ x1 x2 = some q) : Met l yX7_order wsX7_order ({ frames := 1, cells := 0, slots := 0, locals := 21 } : Room) (va_Pc [.ref (ρ 40), .int x1, .int x2] (PM D κ ρ sz σ)) (QM D κ ρ sz q.2 (some (.int q.1))) 0 0 (AM ρ sz) := by
  refine mMetM (ret := (some .int)) (by decide) rfl rfl (Nat.le_of_ble_eq_true rfl) ?_
  intro p e s m below meth c ls C hr hlk hD hP hl
  have hS : va_S (AM ρ s.heap.size) s.heap s.heap [] := va_S.rf
  have hl : lv_has ls 3 [(0, .ref (ρ 40)), (1, .int x1), (2, .int x2)] := hl
  unfold fM_order at h
  have hx := C.1.1
  have hb := C.1.2.1
  have hts := C.1.2.2.2.2
  have hown := C.1.2.2.2.1
  refine lv_iload_n hx hb dX7_order_0 rfl (lv_at hl 1 rfl) ?_
  refine lv_iconst (v := (-1 : Int32)) hx hb dX7_order_1 (by decide) ?_
  refine lv_icmp_eq (tgt := 23) hx hb dX7_order_2 (by decide) (fun c_2 => ?_) (fun c_2 => ?_)
  · have h := zz_pos c_2 h
    exact wM_order_J23 C hr hlk hD _ _ _ _ _ _ h hP hS (lv_sub hl [0, 1, 2] rfl)
  · have h := zz_neg c_2 h
    refine lv_aload_n hx hb dX7_order_5 rfl (lv_at hl 0 rfl) ?_
    refine lv_iload_n hx hb dX7_order_6 rfl (lv_at hl 1 rfl) ?_
    obtain ⟨r_7, e_7, h⟩ := bnd_of h
    refine callP (W.runV (As := [.int x1]) C.1 (cM_isTable e_7) (cwV 1 hts gX7_order_X7_isTable rfl rfl rfl (by decide +kernel) ⟨by decide, by decide⟩) (mPreR C.2 hP _) rfl rfl hl.1 rfl (lv_room (Nat.le_of_ble_eq_true rfl)) dX7_order_7 ⟨Nat.zero_le _, Nat.zero_le _⟩) ?_
    refine lv_if_eq (tgt := 21) hx hb dX7_order_10 (by decide) (fun c_10 => ?_) (fun c_10 => ?_)
    · have h := zz_pos c_10 h
      refine lv_iconst (v := (-1 : Int32)) hx hb dX7_order_21 (by decide) ?_
      exact W.iret hx hb hr (fun t ht hW => ⟨by rw [← some_of h], by rw [ht, ← some_of h]; exact hP, hS.F ht⟩) hS.2.2 dX7_order_22
    · have h := zz_neg c_10 h
      refine lv_aload_n hx hb dX7_order_13 rfl (lv_at hl 0 rfl) ?_
      refine lv_iload_n hx hb dX7_order_14 rfl (lv_at hl 2 rfl) ?_
      obtain ⟨r_15, e_15, h⟩ := bnd_of h
      refine callP (W.runV (As := [.int x2]) C.1 (cM_isColumn e_15) (cwV 1 hts gX7_order_X7_isColumn rfl rfl rfl (by decide +kernel) ⟨by decide, by decide⟩) (mPreR C.2 hP _) rfl rfl hl.1 rfl (lv_room (Nat.le_of_ble_eq_true rfl)) dX7_order_15 ⟨Nat.zero_le _, Nat.zero_le _⟩) ?_
      refine lv_if_ne (tgt := 23) hx hb dX7_order_18 (by decide) (fun c_18 => ?_) (fun c_18 => ?_)
      · have h := zz_neg c_18 h
        exact wM_order_J23 C hr hlk hD _ _ _ _ _ _ h hP hS (lv_sub hl [0, 1, 2] rfl)
      · have h := zz_pos c_18 h
        refine lv_iconst (v := (-1 : Int32)) hx hb dX7_order_21 (by decide) ?_
        exact W.iret hx hb hr (fun t ht hW => ⟨by rw [← some_of h], by rw [ht, ← some_of h]; exact hP, hS.F ht⟩) hS.2.2 dX7_order_22
def fM_clear (N : Nat) (σ : MSt) : Option (Int32 × MSt) := some ((σ.1 11), (sI σ 11 (0 : Int32)))
set_option maxRecDepth 100000 in
set_option maxHeartbeats 4000000 in
theorem cM_clear {l : Launch} {D : va_G} {κ : Nat → ClassId} {ρ : Nat → Nat} {sz : Nat} {N : Nat} {σ : MSt} {q : Int32 × MSt} (h : fM_clear N σ = some q) : Met l yX7_clear wsX7_clear ({ frames := 0, cells := 0, slots := 0, locals := 0 } : Room) (va_Pc [.ref (ρ 40)] (PM D κ ρ sz σ)) (QM D κ ρ sz q.2 (some (.int q.1))) 0 0 (AM ρ sz) := by
  refine mMetM (ret := (some .int)) (by decide) rfl rfl (Nat.le_of_ble_eq_true rfl) ?_
  intro p e s m below meth c ls C hr hlk hD hP hl
  have hS : va_S (AM ρ s.heap.size) s.heap s.heap [] := va_S.rf
  have hl : lv_has ls 2 [(0, .ref (ρ 40))] := hl
  unfold fM_clear at h
  have hx := C.1.1
  have hb := C.1.2.1
  have hts := C.1.2.2.2.2
  have hown := C.1.2.2.2.1
  have k_44 := hts (.fieldLink RX7 44 "PlanCabinetModel" "plans" "I") (by decide +kernel)
  have in_7 : ∀ w ∈ wsX70, w ∈ wsX7_clear := by decide +kernel
  refine lv_aload_n hx hb dX7_clear_0 rfl (lv_at hl 0 rfl) ?_
  refine mG_11 C in_7 hP k_44 dX7_clear_1 ?_
  refine lv_istore_n (lv' := [(1, .int (σ.1 11)), (0, .ref (ρ 40))]) hx hb dX7_clear_4 rfl hl (by decide) rfl (fun ls hl => ?_)
  refine lv_aload_n hx hb dX7_clear_5 rfl (lv_at hl 1 rfl) ?_
  refine lv_iconst (v := (0 : Int32)) hx hb dX7_clear_6 (by decide) ?_
  refine mP_11 C in_7 hP hD hS k_44 dX7_clear_7 (fun H locs hP hS => ?_)
  refine lv_iload_n hx hb dX7_clear_10 rfl (lv_at hl 0 rfl) ?_
  exact W.iret hx hb hr (fun t ht hW => ⟨by rw [← some_of h], by rw [ht, ← some_of h]; exact hP, hS.F ht⟩) hS.2.2 dX7_clear_11
def fM_size_L11 (N : Nat) (K47 : MSt → Int32 → Int64 → Int32 → Int32 → Option (MSt)) : Nat → MSt → Int32 → Int64 → Int32 → Int32 → Int32 → Option (MSt)
  | 0, _, _, _, _, _, _ => none
  | n + 1, σ, x1, x2, x4, x5, x6 => (if (σ.1 0) ≤ x6 then K47 σ x1 x2 x4 x5 else (if ((x1 >>> (x6 &&& 31)) &&& (1 : Int32)) = (1 : Int32) then chk x6 4 (fM_size_L11 N K47 n σ x1 (x2 * (σ.2.2.1 4 x6.toNatClampNeg).toInt64) x4 x5 (x6 + 1)) else fM_size_L11 N K47 n σ x1 x2 x4 x5 (x6 + 1)))
def fM_size_L50 (N : Nat) (K126 : MSt → Int64 → Int32 → Int32 → Option (MSt)) : Nat → MSt → Int32 → Int64 → Int32 → Int32 → Int32 → Option (MSt)
  | 0, _, _, _, _, _, _ => none
  | n + 1, σ, x1, x2, x4, x5, x6 => (if (σ.1 1) ≤ x6 then K126 σ x2 x4 x5 else chk x6 4 ((if ((x1 >>> ((σ.2.2.1 6 x6.toNatClampNeg) &&& 31)) &&& (1 : Int32)) = 0 then fM_size_L50 N K126 n σ x1 x2 x4 x5 (x6 + 1) else chk x6 4 ((if ((x1 >>> ((σ.2.2.1 8 x6.toNatClampNeg) &&& 31)) &&& (1 : Int32)) = 0 then fM_size_L50 N K126 n σ x1 x2 x4 x5 (x6 + 1) else chk x6 4 ((if (σ.2.2.1 10 x6.toNatClampNeg) = 0 then fM_size_L50 N K126 n σ x1 x2 (1 : Int32) (x5 + (-1)) (x6 + 1) else chk x6 4 (fM_size_L50 N K126 n σ x1 (x2 * (σ.2.2.1 10 x6.toNatClampNeg).toInt64) x4 (x5 + (-1)) (x6 + 1)))))))))
def fM_size_L129 (N : Nat) (K148 : MSt → Int64 → Int32 → Option (MSt)) : Nat → MSt → Int64 → Int32 → Int32 → Int32 → Option (MSt)
  | 0, _, _, _, _, _ => none
  | n + 1, σ, x2, x4, x5, x6 => (if x5 ≤ x6 then K148 σ x2 x4 else fM_size_L129 N K148 n σ (x2 * (4 : Int64)) x4 x5 (x6 + 1))
def fM_size (N : Nat) (σ : MSt) (x1 : Int32) : Option (MSt) := fM_size_L11 N (fun (σ : MSt) (x1 : Int32) (x2 : Int64) (x4 : Int32) (x5 : Int32) => fM_size_L50 N (fun (σ : MSt) (x2 : Int64) (x4 : Int32) (x5 : Int32) => fM_size_L129 N (fun (σ : MSt) (x2 : Int64) (x4 : Int32) => (if x4 = 0 then (if x4 = 0 then some (sJ (sJ σ 14 x2) 15 (0 : Int64)) else some (sJ (sJ σ 14 x2) 15 x2)) else (if x4 = 0 then some (sJ (sJ σ 14 (0 : Int64)) 15 (0 : Int64)) else some (sJ (sJ σ 14 (0 : Int64)) 15 x2)))) N σ x2 x4 x5 (0 : Int32)) N σ x1 x2 x4 x5 (0 : Int32)) N σ x1 (1 : Int64) (0 : Int32) (4 : Int32) (0 : Int32)
set_option maxRecDepth 100000 in
set_option maxHeartbeats 4000000 in
theorem wM_size_L11 {p : Program} {l : Launch} {e : Env} {s : State} {m : MethodId} {args : Array Value} {below : List Frame} {meth : Method} {c : Code} {D : va_G} {κ : Nat → ClassId} {ρ : Nat → Nat} (C : MC p m c cX7_size 7 s args wsX7_size D κ) (hr : meth.sig.returnType = none) (hlk : meth.locks = false) (hD : DM (AM ρ s.heap.size) ρ) {N : Nat} {q : MSt} {K47 : MSt → Int32 → Int64 → Int32 → Int32 → Option (MSt)} : ∀ (n : Nat) (σ : MSt) (x1 : Int32) (x2 : Int64) (x4 : Int32) (x5 : Int32) (x6 : Int32) (H : Heap) (locs : List Loc) (ls : Array Slot), fM_size_L11 N K47 n σ x1 x2 x4 x5 x6 = some q → va_P D vwCl (cellsM κ ρ σ) H → va_S (AM ρ s.heap.size) s.heap H locs → lv_has ls 7 [(0, .ref (ρ 40)), (1, .int x1), (2, .long x2), (4, .int x4), (5, .int x5), (6, .int x6)] → (∀ (σ : MSt) (x1 : Int32) (x2 : Int64) (x4 : Int32) (x5 : Int32) (H : Heap) (locs : List Loc) (ls : Array Slot), K47 σ x1 x2 x4 x5 = some q → va_P D vwCl (cellsM κ ρ σ) H → va_S (AM ρ s.heap.size) s.heap H locs → lv_has ls 7 [(0, .ref (ρ 40)), (1, .int x1), (2, .long x2), (4, .int x4), (5, .int x5)] → W p l e ({ frames := 0, cells := 0, slots := 0, locals := 0 } : Room) s m args below meth c H locs 0 0 (MQ below (QM D κ ρ s.heap.size q none) args s 0 0 (AM ρ s.heap.size)) (F0 m 47 ls [])) → W p l e ({ frames := 0, cells := 0, slots := 0, locals := 0 } : Room) s m args below meth c H locs 0 0 (MQ below (QM D κ ρ s.heap.size q none) args s 0 0 (AM ρ s.heap.size)) (F0 m 11 ls []) := by
  have hx := C.1.1
  have hb := C.1.2.1
  have hts := C.1.2.2.2.2
  have hown := C.1.2.2.2.1
  have k_7 := hts (.fieldLink RX7 7 "PlanCabinetModel" "tables" "I") (by decide +kernel)
  have k_22 := hts (.fieldLink RX7 22 "PlanCabinetModel" "rows" "[I") (by decide +kernel)
  have in_7 : ∀ w ∈ wsX70, w ∈ wsX7_size := by decide +kernel
  intro n
  induction n with
  | zero =>
    intro σ x1 x2 x4 x5 x6 H locs ls h hP hS hl hK47
    rw [fM_size_L11] at h
    cases h
  | succ n ih =>
    intro σ x1 x2 x4 x5 x6 H locs ls h hP hS hl hK47
    rw [fM_size_L11] at h
    refine lv_iload hx hb dX7_size_11 (lv_at hl 5 rfl) ?_
    refine lv_aload_n hx hb dX7_size_13 rfl (lv_at hl 0 rfl) ?_
    refine mG_0 C in_7 hP k_7 dX7_size_14 ?_
    refine lv_icmp_ge (tgt := 47) hx hb dX7_size_17 (by decide) (fun c_17 => ?_) (fun c_17 => ?_)
    · have h := zz_pos c_17 h
      exact hK47 _ _ _ _ _ _ _ _ h hP hS (lv_sub hl [0, 1, 2, 3, 4] rfl)
    · have h := zz_neg c_17 h
      refine lv_iload_n hx hb dX7_size_20 rfl (lv_at hl 1 rfl) ?_
      refine lv_iload hx hb dX7_size_21 (lv_at hl 5 rfl) ?_
      refine lv_ishr hx hb dX7_size_23 ?_
      refine lv_iconst (v := (1 : Int32)) hx hb dX7_size_24 (by decide) ?_
      refine lv_iand hx hb dX7_size_25 ?_
      refine lv_iconst (v := (1 : Int32)) hx hb dX7_size_26 (by decide) ?_
      refine lv_icmp_ne (tgt := 41) hx hb dX7_size_27 (by decide) (fun c_27 => ?_) (fun c_27 => ?_)
      · have h := zz_neg c_27 h
        refine lv_iinc (v := (x6 + 1)) (lv' := [(6, .int (x6 + 1)), (0, .ref (ρ 40)), (1, .int x1), (2, .long x2), (4, .int x4), (5, .int x5)]) hx hb dX7_size_41 hl (k := 5) rfl rfl (by decide) rfl (fun ls hl => ?_)
        refine lv_goto (tgt := 11) hx hb dX7_size_44 (by decide) ?_
        exact ih _ _ _ _ _ _ _ _ _ h hP hS (lv_sub hl [1, 2, 3, 4, 5, 0] rfl) hK47
      · have h := zz_pos c_27 h
        refine lv_lload_n hx hb dX7_size_30 rfl (lv_at hl 2 rfl) ?_
        refine lv_aload_n hx hb dX7_size_31 rfl (lv_at hl 0 rfl) ?_
        refine mG_4 C in_7 hP k_22 dX7_size_32 ?_
        refine lv_iload hx hb dX7_size_35 (lv_at hl 5 rfl) ?_
        obtain ⟨b_37, h⟩ := chk_of h
        refine mL_4 C hP b_37 dX7_size_37 ?_
        refine lv_i2l hx hb dX7_size_38 rfl ?_
        refine lv_lmul hx hb dX7_size_39 ?_
        refine lv_lstore_n (lv' := [(2, .long (x2 * (σ.2.2.1 4 x6.toNatClampNeg).toInt64)), (0, .ref (ρ 40)), (1, .int x1), (4, .int x4), (5, .int x5), (6, .int x6)]) hx hb dX7_size_40 rfl hl (by decide) rfl (fun ls hl => ?_)
        refine lv_iinc (v := (x6 + 1)) (lv' := [(6, .int (x6 + 1)), (2, .long (x2 * (σ.2.2.1 4 x6.toNatClampNeg).toInt64)), (0, .ref (ρ 40)), (1, .int x1), (4, .int x4), (5, .int x5)]) hx hb dX7_size_41 hl (k := 5) rfl rfl (by decide) rfl (fun ls hl => ?_)
        refine lv_goto (tgt := 11) hx hb dX7_size_44 (by decide) ?_
        exact ih _ _ _ _ _ _ _ _ _ h hP hS (lv_sub hl [2, 3, 1, 4, 5, 0] rfl) hK47
set_option maxRecDepth 100000 in
set_option maxHeartbeats 4000000 in
theorem wM_size_L50 {p : Program} {l : Launch} {e : Env} {s : State} {m : MethodId} {args : Array Value} {below : List Frame} {meth : Method} {c : Code} {D : va_G} {κ : Nat → ClassId} {ρ : Nat → Nat} (C : MC p m c cX7_size 7 s args wsX7_size D κ) (hr : meth.sig.returnType = none) (hlk : meth.locks = false) (hD : DM (AM ρ s.heap.size) ρ) {N : Nat} {q : MSt} {K126 : MSt → Int64 → Int32 → Int32 → Option (MSt)} : ∀ (n : Nat) (σ : MSt) (x1 : Int32) (x2 : Int64) (x4 : Int32) (x5 : Int32) (x6 : Int32) (H : Heap) (locs : List Loc) (ls : Array Slot), fM_size_L50 N K126 n σ x1 x2 x4 x5 x6 = some q → va_P D vwCl (cellsM κ ρ σ) H → va_S (AM ρ s.heap.size) s.heap H locs → lv_has ls 7 [(0, .ref (ρ 40)), (1, .int x1), (2, .long x2), (4, .int x4), (5, .int x5), (6, .int x6)] → (∀ (σ : MSt) (x2 : Int64) (x4 : Int32) (x5 : Int32) (H : Heap) (locs : List Loc) (ls : Array Slot), K126 σ x2 x4 x5 = some q → va_P D vwCl (cellsM κ ρ σ) H → va_S (AM ρ s.heap.size) s.heap H locs → lv_has ls 7 [(0, .ref (ρ 40)), (2, .long x2), (4, .int x4), (5, .int x5)] → W p l e ({ frames := 0, cells := 0, slots := 0, locals := 0 } : Room) s m args below meth c H locs 0 0 (MQ below (QM D κ ρ s.heap.size q none) args s 0 0 (AM ρ s.heap.size)) (F0 m 126 ls [])) → W p l e ({ frames := 0, cells := 0, slots := 0, locals := 0 } : Room) s m args below meth c H locs 0 0 (MQ below (QM D κ ρ s.heap.size q none) args s 0 0 (AM ρ s.heap.size)) (F0 m 50 ls []) := by
  have hx := C.1.1
  have hb := C.1.2.1
  have hts := C.1.2.2.2.2
  have hown := C.1.2.2.2.1
  have k_13 := hts (.fieldLink RX7 13 "PlanCabinetModel" "pairings" "I") (by decide +kernel)
  have k_29 := hts (.fieldLink RX7 29 "PlanCabinetModel" "pairT" "[I") (by decide +kernel)
  have k_35 := hts (.fieldLink RX7 35 "PlanCabinetModel" "pairU" "[I") (by decide +kernel)
  have k_41 := hts (.fieldLink RX7 41 "PlanCabinetModel" "share" "[I") (by decide +kernel)
  have in_7 : ∀ w ∈ wsX70, w ∈ wsX7_size := by decide +kernel
  intro n
  induction n with
  | zero =>
    intro σ x1 x2 x4 x5 x6 H locs ls h hP hS hl hK126
    rw [fM_size_L50] at h
    cases h
  | succ n ih =>
    intro σ x1 x2 x4 x5 x6 H locs ls h hP hS hl hK126
    rw [fM_size_L50] at h
    refine lv_iload hx hb dX7_size_50 (lv_at hl 5 rfl) ?_
    refine lv_aload_n hx hb dX7_size_52 rfl (lv_at hl 0 rfl) ?_
    refine mG_1 C in_7 hP k_13 dX7_size_53 ?_
    refine lv_icmp_ge (tgt := 126) hx hb dX7_size_56 (by decide) (fun c_56 => ?_) (fun c_56 => ?_)
    · have h := zz_pos c_56 h
      exact hK126 _ _ _ _ _ _ _ h hP hS (lv_sub hl [0, 2, 3, 4] rfl)
    · have h := zz_neg c_56 h
      refine lv_iload_n hx hb dX7_size_59 rfl (lv_at hl 1 rfl) ?_
      refine lv_aload_n hx hb dX7_size_60 rfl (lv_at hl 0 rfl) ?_
      refine mG_6 C in_7 hP k_29 dX7_size_61 ?_
      refine lv_iload hx hb dX7_size_64 (lv_at hl 5 rfl) ?_
      obtain ⟨b_66, h⟩ := chk_of h
      refine mL_6 C hP b_66 dX7_size_66 ?_
      refine lv_ishr hx hb dX7_size_67 ?_
      refine lv_iconst (v := (1 : Int32)) hx hb dX7_size_68 (by decide) ?_
      refine lv_iand hx hb dX7_size_69 ?_
      refine lv_if_eq (tgt := 120) hx hb dX7_size_70 (by decide) (fun c_70 => ?_) (fun c_70 => ?_)
      · have h := zz_pos c_70 h
        refine lv_iinc (v := (x6 + 1)) (lv' := [(6, .int (x6 + 1)), (0, .ref (ρ 40)), (1, .int x1), (2, .long x2), (4, .int x4), (5, .int x5)]) hx hb dX7_size_120 hl (k := 5) rfl rfl (by decide) rfl (fun ls hl => ?_)
        refine lv_goto (tgt := 50) hx hb dX7_size_123 (by decide) ?_
        exact ih _ _ _ _ _ _ _ _ _ h hP hS (lv_sub hl [1, 2, 3, 4, 5, 0] rfl) hK126
      · have h := zz_neg c_70 h
        refine lv_iload_n hx hb dX7_size_73 rfl (lv_at hl 1 rfl) ?_
        refine lv_aload_n hx hb dX7_size_74 rfl (lv_at hl 0 rfl) ?_
        refine mG_8 C in_7 hP k_35 dX7_size_75 ?_
        refine lv_iload hx hb dX7_size_78 (lv_at hl 5 rfl) ?_
        obtain ⟨b_80, h⟩ := chk_of h
        refine mL_8 C hP b_80 dX7_size_80 ?_
        refine lv_ishr hx hb dX7_size_81 ?_
        refine lv_iconst (v := (1 : Int32)) hx hb dX7_size_82 (by decide) ?_
        refine lv_iand hx hb dX7_size_83 ?_
        refine lv_if_ne (tgt := 90) hx hb dX7_size_84 (by decide) (fun c_84 => ?_) (fun c_84 => ?_)
        · have h := zz_neg c_84 h
          refine lv_iinc (v := (x5 + (-1))) (lv' := [(5, .int (x5 + (-1))), (0, .ref (ρ 40)), (1, .int x1), (2, .long x2), (4, .int x4), (6, .int x6)]) hx hb dX7_size_90 hl (k := 4) rfl rfl (by decide) rfl (fun ls hl => ?_)
          refine lv_aload_n hx hb dX7_size_93 rfl (lv_at hl 1 rfl) ?_
          refine mG_10 C in_7 hP k_41 dX7_size_94 ?_
          refine lv_iload hx hb dX7_size_97 (lv_at hl 5 rfl) ?_
          obtain ⟨b_99, h⟩ := chk_of h
          refine mL_10 C hP b_99 dX7_size_99 ?_
          refine lv_if_ne (tgt := 109) hx hb dX7_size_100 (by decide) (fun c_100 => ?_) (fun c_100 => ?_)
          · have h := zz_neg c_100 h
            refine lv_lload_n hx hb dX7_size_109 rfl (lv_at hl 3 rfl) ?_
            refine lv_aload_n hx hb dX7_size_110 rfl (lv_at hl 1 rfl) ?_
            refine mG_10 C in_7 hP k_41 dX7_size_111 ?_
            refine lv_iload hx hb dX7_size_114 (lv_at hl 5 rfl) ?_
            obtain ⟨b_116, h⟩ := chk_of h
            refine mL_10 C hP b_116 dX7_size_116 ?_
            refine lv_i2l hx hb dX7_size_117 rfl ?_
            refine lv_lmul hx hb dX7_size_118 ?_
            refine lv_lstore_n (lv' := [(2, .long (x2 * (σ.2.2.1 10 x6.toNatClampNeg).toInt64)), (5, .int (x5 + (-1))), (0, .ref (ρ 40)), (1, .int x1), (4, .int x4), (6, .int x6)]) hx hb dX7_size_119 rfl hl (by decide) rfl (fun ls hl => ?_)
            refine lv_iinc (v := (x6 + 1)) (lv' := [(6, .int (x6 + 1)), (2, .long (x2 * (σ.2.2.1 10 x6.toNatClampNeg).toInt64)), (5, .int (x5 + (-1))), (0, .ref (ρ 40)), (1, .int x1), (4, .int x4)]) hx hb dX7_size_120 hl (k := 5) rfl rfl (by decide) rfl (fun ls hl => ?_)
            refine lv_goto (tgt := 50) hx hb dX7_size_123 (by decide) ?_
            exact ih _ _ _ _ _ _ _ _ _ h hP hS (lv_sub hl [3, 4, 1, 5, 2, 0] rfl) hK126
          · have h := zz_pos c_100 h
            refine lv_iconst (v := (1 : Int32)) hx hb dX7_size_103 (by decide) ?_
            refine lv_istore (lv' := [(4, .int (1 : Int32)), (5, .int (x5 + (-1))), (0, .ref (ρ 40)), (1, .int x1), (2, .long x2), (6, .int x6)]) hx hb dX7_size_104 hl (by decide) rfl (fun ls hl => ?_)
            refine lv_goto (tgt := 120) hx hb dX7_size_106 (by decide) ?_
            refine lv_iinc (v := (x6 + 1)) (lv' := [(6, .int (x6 + 1)), (4, .int (1 : Int32)), (5, .int (x5 + (-1))), (0, .ref (ρ 40)), (1, .int x1), (2, .long x2)]) hx hb dX7_size_120 hl (k := 5) rfl rfl (by decide) rfl (fun ls hl => ?_)
            refine lv_goto (tgt := 50) hx hb dX7_size_123 (by decide) ?_
            exact ih _ _ _ _ _ _ _ _ _ h hP hS (lv_sub hl [3, 4, 5, 1, 2, 0] rfl) hK126
        · have h := zz_pos c_84 h
          refine lv_goto (tgt := 120) hx hb dX7_size_87 (by decide) ?_
          refine lv_iinc (v := (x6 + 1)) (lv' := [(6, .int (x6 + 1)), (0, .ref (ρ 40)), (1, .int x1), (2, .long x2), (4, .int x4), (5, .int x5)]) hx hb dX7_size_120 hl (k := 5) rfl rfl (by decide) rfl (fun ls hl => ?_)
          refine lv_goto (tgt := 50) hx hb dX7_size_123 (by decide) ?_
          exact ih _ _ _ _ _ _ _ _ _ h hP hS (lv_sub hl [1, 2, 3, 4, 5, 0] rfl) hK126
set_option maxRecDepth 100000 in
set_option maxHeartbeats 4000000 in
theorem wM_size_L129 {p : Program} {l : Launch} {e : Env} {s : State} {m : MethodId} {args : Array Value} {below : List Frame} {meth : Method} {c : Code} {D : va_G} {κ : Nat → ClassId} {ρ : Nat → Nat} (C : MC p m c cX7_size 7 s args wsX7_size D κ) (hr : meth.sig.returnType = none) (hlk : meth.locks = false) (hD : DM (AM ρ s.heap.size) ρ) {N : Nat} {q : MSt} {K148 : MSt → Int64 → Int32 → Option (MSt)} : ∀ (n : Nat) (σ : MSt) (x2 : Int64) (x4 : Int32) (x5 : Int32) (x6 : Int32) (H : Heap) (locs : List Loc) (ls : Array Slot), fM_size_L129 N K148 n σ x2 x4 x5 x6 = some q → va_P D vwCl (cellsM κ ρ σ) H → va_S (AM ρ s.heap.size) s.heap H locs → lv_has ls 7 [(0, .ref (ρ 40)), (2, .long x2), (4, .int x4), (5, .int x5), (6, .int x6)] → (∀ (σ : MSt) (x2 : Int64) (x4 : Int32) (H : Heap) (locs : List Loc) (ls : Array Slot), K148 σ x2 x4 = some q → va_P D vwCl (cellsM κ ρ σ) H → va_S (AM ρ s.heap.size) s.heap H locs → lv_has ls 7 [(0, .ref (ρ 40)), (2, .long x2), (4, .int x4)] → W p l e ({ frames := 0, cells := 0, slots := 0, locals := 0 } : Room) s m args below meth c H locs 0 0 (MQ below (QM D κ ρ s.heap.size q none) args s 0 0 (AM ρ s.heap.size)) (F0 m 148 ls [])) → W p l e ({ frames := 0, cells := 0, slots := 0, locals := 0 } : Room) s m args below meth c H locs 0 0 (MQ below (QM D κ ρ s.heap.size q none) args s 0 0 (AM ρ s.heap.size)) (F0 m 129 ls []) := by
  have hx := C.1.1
  have hb := C.1.2.1
  have hts := C.1.2.2.2.2
  have hown := C.1.2.2.2.1
  have k_154 := hts (.constantLong RX7 154 (4)) (by decide +kernel)
  intro n
  induction n with
  | zero =>
    intro σ x2 x4 x5 x6 H locs ls h hP hS hl hK148
    rw [fM_size_L129] at h
    cases h
  | succ n ih =>
    intro σ x2 x4 x5 x6 H locs ls h hP hS hl hK148
    rw [fM_size_L129] at h
    refine lv_iload hx hb dX7_size_129 (lv_at hl 4 rfl) ?_
    refine lv_iload hx hb dX7_size_131 (lv_at hl 3 rfl) ?_
    refine lv_icmp_ge (tgt := 148) hx hb dX7_size_133 (by decide) (fun c_133 => ?_) (fun c_133 => ?_)
    · have h := zz_pos c_133 h
      exact hK148 _ _ _ _ _ _ h hP hS (lv_sub hl [0, 1, 2] rfl)
    · have h := zz_neg c_133 h
      refine lv_lload_n hx hb dX7_size_136 rfl (lv_at hl 1 rfl) ?_
      refine lv_ldc2 hx hb hown k_154 dX7_size_137 ?_
      refine lv_lmul hx hb dX7_size_140 ?_
      refine lv_lstore_n (lv' := [(2, .long (x2 * (4 : Int64))), (0, .ref (ρ 40)), (4, .int x4), (5, .int x5), (6, .int x6)]) hx hb dX7_size_141 rfl hl (by decide) rfl (fun ls hl => ?_)
      refine lv_iinc (v := (x6 + 1)) (lv' := [(6, .int (x6 + 1)), (2, .long (x2 * (4 : Int64))), (0, .ref (ρ 40)), (4, .int x4), (5, .int x5)]) hx hb dX7_size_142 hl (k := 4) rfl rfl (by decide) rfl (fun ls hl => ?_)
      refine lv_goto (tgt := 129) hx hb dX7_size_145 (by decide) ?_
      exact ih _ _ _ _ _ _ _ _ h hP hS (lv_sub hl [2, 1, 3, 4, 0] rfl) hK148
set_option maxRecDepth 100000 in
set_option maxHeartbeats 4000000 in
theorem cM_size {l : Launch} {D : va_G} {κ : Nat → ClassId} {ρ : Nat → Nat} {sz : Nat} {N : Nat} {σ : MSt} {x1 : Int32} {q : MSt} (h : fM_size N σ x1 = some q) : Met l yX7_size wsX7_size ({ frames := 0, cells := 0, slots := 0, locals := 0 } : Room) (va_Pc [.ref (ρ 40), .int x1] (PM D κ ρ sz σ)) (QM D κ ρ sz q none) 0 0 (AM ρ sz) := by
  refine mMetM (ret := none) (by decide) rfl rfl (Nat.le_of_ble_eq_true rfl) ?_
  intro p e s m below meth c ls C hr hlk hD hP hl
  have hS : va_S (AM ρ s.heap.size) s.heap s.heap [] := va_S.rf
  have hl : lv_has ls 7 [(0, .ref (ρ 40)), (1, .int x1)] := hl
  unfold fM_size at h
  have hx := C.1.1
  have hb := C.1.2.1
  have hts := C.1.2.2.2.2
  have hown := C.1.2.2.2.1
  have k_53 := hts (.fieldLink RX7 53 "PlanCabinetModel" "a" "J") (by decide +kernel)
  have k_57 := hts (.fieldLink RX7 57 "PlanCabinetModel" "b" "J") (by decide +kernel)
  have in_7 : ∀ w ∈ wsX70, w ∈ wsX7_size := by decide +kernel
  refine lv_lconst (v := (1 : Int64)) hx hb dX7_size_0 (by decide) ?_
  refine lv_lstore_n (lv' := [(2, .long (1 : Int64)), (0, .ref (ρ 40)), (1, .int x1)]) hx hb dX7_size_1 rfl hl (by decide) rfl (fun ls hl => ?_)
  refine lv_iconst (v := (0 : Int32)) hx hb dX7_size_2 (by decide) ?_
  refine lv_istore (lv' := [(4, .int (0 : Int32)), (2, .long (1 : Int64)), (0, .ref (ρ 40)), (1, .int x1)]) hx hb dX7_size_3 hl (by decide) rfl (fun ls hl => ?_)
  refine lv_iconst (v := (4 : Int32)) hx hb dX7_size_5 (by decide) ?_
  refine lv_istore (lv' := [(5, .int (4 : Int32)), (4, .int (0 : Int32)), (2, .long (1 : Int64)), (0, .ref (ρ 40)), (1, .int x1)]) hx hb dX7_size_6 hl (by decide) rfl (fun ls hl => ?_)
  refine lv_iconst (v := (0 : Int32)) hx hb dX7_size_8 (by decide) ?_
  refine lv_istore (lv' := [(6, .int (0 : Int32)), (5, .int (4 : Int32)), (4, .int (0 : Int32)), (2, .long (1 : Int64)), (0, .ref (ρ 40)), (1, .int x1)]) hx hb dX7_size_9 hl (by decide) rfl (fun ls hl => ?_)
  refine wM_size_L11 C hr hlk hD _ _ _ _ _ _ _ _ _ _ h hP hS (lv_sub hl [4, 5, 3, 2, 1, 0] rfl) ?_
  intro σ x1 x2 x4 x5 H locs ls h hP hS hl
  refine lv_iconst (v := (0 : Int32)) hx hb dX7_size_47 (by decide) ?_
  refine lv_istore (lv' := [(6, .int (0 : Int32)), (0, .ref (ρ 40)), (1, .int x1), (2, .long x2), (4, .int x4), (5, .int x5)]) hx hb dX7_size_48 hl (by decide) rfl (fun ls hl => ?_)
  refine wM_size_L50 C hr hlk hD _ _ _ _ _ _ _ _ _ _ h hP hS (lv_sub hl [1, 2, 3, 4, 5, 0] rfl) ?_
  intro σ x2 x4 x5 H locs ls h hP hS hl
  refine lv_iconst (v := (0 : Int32)) hx hb dX7_size_126 (by decide) ?_
  refine lv_istore (lv' := [(6, .int (0 : Int32)), (0, .ref (ρ 40)), (2, .long x2), (4, .int x4), (5, .int x5)]) hx hb dX7_size_127 hl (by decide) rfl (fun ls hl => ?_)
  refine wM_size_L129 C hr hlk hD _ _ _ _ _ _ _ _ _ h hP hS (lv_sub hl [1, 2, 3, 4, 0] rfl) ?_
  intro σ x2 x4 H locs ls h hP hS hl
  refine lv_aload_n hx hb dX7_size_148 rfl (lv_at hl 0 rfl) ?_
  refine lv_iload hx hb dX7_size_149 (lv_at hl 2 rfl) ?_
  refine lv_if_eq (tgt := 158) hx hb dX7_size_151 (by decide) (fun c_151 => ?_) (fun c_151 => ?_)
  · have h := zz_pos c_151 h
    refine lv_lload_n hx hb dX7_size_158 rfl (lv_at hl 1 rfl) ?_
    refine mP_14 C in_7 hP hD hS k_53 dX7_size_159 (fun H locs hP hS => ?_)
    refine lv_aload_n hx hb dX7_size_162 rfl (lv_at hl 0 rfl) ?_
    refine lv_iload hx hb dX7_size_163 (lv_at hl 2 rfl) ?_
    refine lv_if_eq (tgt := 172) hx hb dX7_size_165 (by decide) (fun c_165 => ?_) (fun c_165 => ?_)
    · have h := zz_pos c_165 h
      refine lv_lconst (v := (0 : Int64)) hx hb dX7_size_172 (by decide) ?_
      refine mP_15 C in_7 hP hD hS k_57 dX7_size_173 (fun H locs hP hS => ?_)
      exact W.vret hx hb hr (fun t ht hW => ⟨rfl, by rw [ht, ← some_of h]; exact hP, hS.F ht⟩) hS.2.2 dX7_size_176
    · have h := zz_neg c_165 h
      refine lv_lload_n hx hb dX7_size_168 rfl (lv_at hl 1 rfl) ?_
      refine lv_goto (tgt := 173) hx hb dX7_size_169 (by decide) ?_
      refine mP_15 C in_7 hP hD hS k_57 dX7_size_173 (fun H locs hP hS => ?_)
      exact W.vret hx hb hr (fun t ht hW => ⟨rfl, by rw [ht, ← some_of h]; exact hP, hS.F ht⟩) hS.2.2 dX7_size_176
  · have h := zz_neg c_151 h
    refine lv_lconst (v := (0 : Int64)) hx hb dX7_size_154 (by decide) ?_
    refine lv_goto (tgt := 159) hx hb dX7_size_155 (by decide) ?_
    refine mP_14 C in_7 hP hD hS k_53 dX7_size_159 (fun H locs hP hS => ?_)
    refine lv_aload_n hx hb dX7_size_162 rfl (lv_at hl 0 rfl) ?_
    refine lv_iload hx hb dX7_size_163 (lv_at hl 2 rfl) ?_
    refine lv_if_eq (tgt := 172) hx hb dX7_size_165 (by decide) (fun c_165 => ?_) (fun c_165 => ?_)
    · have h := zz_pos c_165 h
      refine lv_lconst (v := (0 : Int64)) hx hb dX7_size_172 (by decide) ?_
      refine mP_15 C in_7 hP hD hS k_57 dX7_size_173 (fun H locs hP hS => ?_)
      exact W.vret hx hb hr (fun t ht hW => ⟨rfl, by rw [ht, ← some_of h]; exact hP, hS.F ht⟩) hS.2.2 dX7_size_176
    · have h := zz_neg c_165 h
      refine lv_lload_n hx hb dX7_size_168 rfl (lv_at hl 1 rfl) ?_
      refine lv_goto (tgt := 173) hx hb dX7_size_169 (by decide) ?_
      refine mP_15 C in_7 hP hD hS k_57 dX7_size_173 (fun H locs hP hS => ?_)
      exact W.vret hx hb hr (fun t ht hW => ⟨rfl, by rw [ht, ← some_of h]; exact hP, hS.F ht⟩) hS.2.2 dX7_size_176
def fM_joining_J75 (N : Nat) (σ : MSt) (x1 : Int32) (x4 : Int64) (x6 : Int64) (x8 : Int64) (x10 : Int64) (x12 : Int64) (y1 : Int64) : Option (MSt) := (if x1 = 0 then nz64 (256 : Int64) (some (sJ (sJ σ 14 y1) 15 (((x4 * x10) + (x6 * x8)) / (256 : Int64)))) else some (sJ (sJ σ 14 y1) 15 (x12 * (x6 + x10))))
def fM_joining_J48 (N : Nat) (σ : MSt) (x1 : Int32) (x4 : Int64) (x6 : Int64) (x8 : Int64) (x10 : Int64) (y0 : Int64) : Option (MSt) := (if x1 = 0 then nz64 (256 : Int64) (fM_joining_J75 N σ x1 x4 x6 x8 x10 y0 ((x4 * x8) / (256 : Int64))) else fM_joining_J75 N σ x1 x4 x6 x8 x10 y0 (y0 * (x4 + x8)))
def fM_joining (N : Nat) (σ : MSt) (x1 : Int32) (x2 : Int32) (x3 : Int32) : Option (MSt) := (fM_size N σ x2).bind fun r_2 => (fM_size N r_2 x3).bind fun r_19 => (if x1 = (1 : Int32) then fM_joining_J48 N r_19 x1 (r_2.2.1 14) (r_2.2.1 15) (r_19.2.1 14) (r_19.2.1 15) (2 : Int64) else fM_joining_J48 N r_19 x1 (r_2.2.1 14) (r_2.2.1 15) (r_19.2.1 14) (r_19.2.1 15) (3 : Int64))
set_option maxRecDepth 100000 in
set_option maxHeartbeats 4000000 in
theorem wM_joining_J75 {p : Program} {l : Launch} {e : Env} {s : State} {m : MethodId} {args : Array Value} {below : List Frame} {meth : Method} {c : Code} {D : va_G} {κ : Nat → ClassId} {ρ : Nat → Nat} (C : MC p m c cX7_joining 14 s args wsX7_joining D κ) (hr : meth.sig.returnType = none) (hlk : meth.locks = false) (hD : DM (AM ρ s.heap.size) ρ) {N : Nat} {q : MSt} : ∀ (σ : MSt) (x1 : Int32) (x4 : Int64) (x6 : Int64) (x8 : Int64) (x10 : Int64) (x12 : Int64) (y1 : Int64) (H : Heap) (locs : List Loc) (ls : Array Slot), fM_joining_J75 N σ x1 x4 x6 x8 x10 x12 y1 = some q → va_P D vwCl (cellsM κ ρ σ) H → va_S (AM ρ s.heap.size) s.heap H locs → lv_has ls 14 [(0, .ref (ρ 40)), (1, .int x1), (4, .long x4), (6, .long x6), (8, .long x8), (10, .long x10), (12, .long x12)] → W p l e ({ frames := 1, cells := 0, slots := 0, locals := 26 } : Room) s m args below meth c H locs 0 0 (MQ below (QM D κ ρ s.heap.size q none) args s 0 0 (AM ρ s.heap.size)) (F0 m 75 ls [.long y1, .ref (ρ 40)]) := by
  have hx := C.1.1
  have hb := C.1.2.1
  have hts := C.1.2.2.2.2
  have hown := C.1.2.2.2.1
  have k_53 := hts (.fieldLink RX7 53 "PlanCabinetModel" "a" "J") (by decide +kernel)
  have k_57 := hts (.fieldLink RX7 57 "PlanCabinetModel" "b" "J") (by decide +kernel)
  have k_164 := hts (.constantLong RX7 164 (256)) (by decide +kernel)
  have in_7 : ∀ w ∈ wsX70, w ∈ wsX7_joining := by decide +kernel
  intro σ x1 x4 x6 x8 x10 x12 y1 H locs ls h hP hS hl
  unfold fM_joining_J75 at h
  refine mP_14 C in_7 hP hD hS k_53 dX7_joining_75 (fun H locs hP hS => ?_)
  refine lv_aload_n hx hb dX7_joining_78 rfl (lv_at hl 0 rfl) ?_
  refine lv_iload_n hx hb dX7_joining_79 rfl (lv_at hl 1 rfl) ?_
  refine lv_if_ne (tgt := 101) hx hb dX7_joining_80 (by decide) (fun c_80 => ?_) (fun c_80 => ?_)
  · have h := zz_neg c_80 h
    refine lv_lload hx hb dX7_joining_101 (lv_at hl 6 rfl) ?_
    refine lv_lload hx hb dX7_joining_103 (lv_at hl 3 rfl) ?_
    refine lv_lload hx hb dX7_joining_105 (lv_at hl 5 rfl) ?_
    refine lv_ladd hx hb dX7_joining_107 ?_
    refine lv_lmul hx hb dX7_joining_108 ?_
    refine mP_15 C in_7 hP hD hS k_57 dX7_joining_109 (fun H locs hP hS => ?_)
    exact W.vret hx hb hr (fun t ht hW => ⟨rfl, by rw [ht, ← some_of h]; exact hP, hS.F ht⟩) hS.2.2 dX7_joining_112
  · have h := zz_pos c_80 h
    refine lv_lload hx hb dX7_joining_83 (lv_at hl 2 rfl) ?_
    refine lv_lload hx hb dX7_joining_85 (lv_at hl 5 rfl) ?_
    refine lv_lmul hx hb dX7_joining_87 ?_
    refine lv_lload hx hb dX7_joining_88 (lv_at hl 3 rfl) ?_
    refine lv_lload hx hb dX7_joining_90 (lv_at hl 4 rfl) ?_
    refine lv_lmul hx hb dX7_joining_92 ?_
    refine lv_ladd hx hb dX7_joining_93 ?_
    refine lv_ldc2 hx hb hown k_164 dX7_joining_94 ?_
    obtain ⟨b_97, h⟩ := nz64_of h
    refine lv_ldiv hx hb dX7_joining_97 b_97 ?_
    refine lv_goto (tgt := 109) hx hb dX7_joining_98 (by decide) ?_
    refine mP_15 C in_7 hP hD hS k_57 dX7_joining_109 (fun H locs hP hS => ?_)
    exact W.vret hx hb hr (fun t ht hW => ⟨rfl, by rw [ht, ← some_of h]; exact hP, hS.F ht⟩) hS.2.2 dX7_joining_112
set_option maxRecDepth 100000 in
set_option maxHeartbeats 4000000 in
theorem wM_joining_J48 {p : Program} {l : Launch} {e : Env} {s : State} {m : MethodId} {args : Array Value} {below : List Frame} {meth : Method} {c : Code} {D : va_G} {κ : Nat → ClassId} {ρ : Nat → Nat} (C : MC p m c cX7_joining 14 s args wsX7_joining D κ) (hr : meth.sig.returnType = none) (hlk : meth.locks = false) (hD : DM (AM ρ s.heap.size) ρ) {N : Nat} {q : MSt} : ∀ (σ : MSt) (x1 : Int32) (x4 : Int64) (x6 : Int64) (x8 : Int64) (x10 : Int64) (y0 : Int64) (H : Heap) (locs : List Loc) (ls : Array Slot), fM_joining_J48 N σ x1 x4 x6 x8 x10 y0 = some q → va_P D vwCl (cellsM κ ρ σ) H → va_S (AM ρ s.heap.size) s.heap H locs → lv_has ls 14 [(0, .ref (ρ 40)), (1, .int x1), (4, .long x4), (6, .long x6), (8, .long x8), (10, .long x10)] → W p l e ({ frames := 1, cells := 0, slots := 0, locals := 26 } : Room) s m args below meth c H locs 0 0 (MQ below (QM D κ ρ s.heap.size q none) args s 0 0 (AM ρ s.heap.size)) (F0 m 48 ls [.long y0]) := by
  have hx := C.1.1
  have hb := C.1.2.1
  have hts := C.1.2.2.2.2
  have hown := C.1.2.2.2.1
  have k_164 := hts (.constantLong RX7 164 (256)) (by decide +kernel)
  intro σ x1 x4 x6 x8 x10 y0 H locs ls h hP hS hl
  unfold fM_joining_J48 at h
  refine lv_lstore (lv' := [(12, .long y0), (0, .ref (ρ 40)), (1, .int x1), (4, .long x4), (6, .long x6), (8, .long x8), (10, .long x10)]) hx hb dX7_joining_48 hl (by decide) rfl (fun ls hl => ?_)
  refine lv_aload_n hx hb dX7_joining_50 rfl (lv_at hl 1 rfl) ?_
  refine lv_iload_n hx hb dX7_joining_51 rfl (lv_at hl 2 rfl) ?_
  refine lv_if_ne (tgt := 67) hx hb dX7_joining_52 (by decide) (fun c_52 => ?_) (fun c_52 => ?_)
  · have h := zz_neg c_52 h
    refine lv_lload hx hb dX7_joining_67 (lv_at hl 0 rfl) ?_
    refine lv_lload hx hb dX7_joining_69 (lv_at hl 3 rfl) ?_
    refine lv_lload hx hb dX7_joining_71 (lv_at hl 5 rfl) ?_
    refine lv_ladd hx hb dX7_joining_73 ?_
    refine lv_lmul hx hb dX7_joining_74 ?_
    exact wM_joining_J75 C hr hlk hD _ _ _ _ _ _ _ _ _ _ _ h hP hS (lv_sub hl [1, 2, 3, 4, 5, 6, 0] rfl)
  · have h := zz_pos c_52 h
    refine lv_lload hx hb dX7_joining_55 (lv_at hl 3 rfl) ?_
    refine lv_lload hx hb dX7_joining_57 (lv_at hl 5 rfl) ?_
    refine lv_lmul hx hb dX7_joining_59 ?_
    refine lv_ldc2 hx hb hown k_164 dX7_joining_60 ?_
    obtain ⟨b_63, h⟩ := nz64_of h
    refine lv_ldiv hx hb dX7_joining_63 b_63 ?_
    refine lv_goto (tgt := 75) hx hb dX7_joining_64 (by decide) ?_
    exact wM_joining_J75 C hr hlk hD _ _ _ _ _ _ _ _ _ _ _ h hP hS (lv_sub hl [1, 2, 3, 4, 5, 6, 0] rfl)
set_option maxRecDepth 100000 in
set_option maxHeartbeats 4000000 in
theorem cM_joining {l : Launch} {D : va_G} {κ : Nat → ClassId} {ρ : Nat → Nat} {sz : Nat} {N : Nat} {σ : MSt} {x1 : Int32} {x2 : Int32} {x3 : Int32} {q : MSt} (h : fM_joining N σ x1 x2 x3 = some q) : Met l yX7_joining wsX7_joining ({ frames := 1, cells := 0, slots := 0, locals := 26 } : Room) (va_Pc [.ref (ρ 40), .int x1, .int x2, .int x3] (PM D κ ρ sz σ)) (QM D κ ρ sz q none) 0 0 (AM ρ sz) := by
  refine mMetM (ret := none) (by decide) rfl rfl (Nat.le_of_ble_eq_true rfl) ?_
  intro p e s m below meth c ls C hr hlk hD hP hl
  have hS : va_S (AM ρ s.heap.size) s.heap s.heap [] := va_S.rf
  have hl : lv_has ls 14 [(0, .ref (ρ 40)), (1, .int x1), (2, .int x2), (3, .int x3)] := hl
  unfold fM_joining at h
  have hx := C.1.1
  have hb := C.1.2.1
  have hts := C.1.2.2.2.2
  have hown := C.1.2.2.2.1
  have k_53 := hts (.fieldLink RX7 53 "PlanCabinetModel" "a" "J") (by decide +kernel)
  have k_57 := hts (.fieldLink RX7 57 "PlanCabinetModel" "b" "J") (by decide +kernel)
  have k_160 := hts (.constantLong RX7 160 (2)) (by decide +kernel)
  have k_162 := hts (.constantLong RX7 162 (3)) (by decide +kernel)
  have in_7 : ∀ w ∈ wsX70, w ∈ wsX7_joining := by decide +kernel
  refine lv_aload_n hx hb dX7_joining_0 rfl (lv_at hl 0 rfl) ?_
  refine lv_iload_n hx hb dX7_joining_1 rfl (lv_at hl 2 rfl) ?_
  obtain ⟨r_2, e_2, h⟩ := bnd_of h
  refine mCall (va_runV (As := [.int x2]) C.1 (cM_size e_2) (cwV 1 hts gX7_joining_X7_size rfl rfl rfl (by decide +kernel) ⟨by decide, by decide⟩) (mPreM C.2 hP hD _) rfl rfl hl.1 rfl (lv_room (Nat.le_of_ble_eq_true rfl)) dX7_joining_2 ⟨Nat.zero_le _, Nat.zero_le _⟩) hS hD (fun _ h => Or.inr h) (fun H locs hP hS => ?_)
  refine lv_aload_n hx hb dX7_joining_5 rfl (lv_at hl 0 rfl) ?_
  refine mG_14 C in_7 hP k_53 dX7_joining_6 ?_
  refine lv_lstore (lv' := [(4, .long (r_2.2.1 14)), (0, .ref (ρ 40)), (1, .int x1), (2, .int x2), (3, .int x3)]) hx hb dX7_joining_9 hl (by decide) rfl (fun ls hl => ?_)
  refine lv_aload_n hx hb dX7_joining_11 rfl (lv_at hl 1 rfl) ?_
  refine mG_15 C in_7 hP k_57 dX7_joining_12 ?_
  refine lv_lstore (lv' := [(6, .long (r_2.2.1 15)), (4, .long (r_2.2.1 14)), (0, .ref (ρ 40)), (1, .int x1), (2, .int x2), (3, .int x3)]) hx hb dX7_joining_15 hl (by decide) rfl (fun ls hl => ?_)
  refine lv_aload_n hx hb dX7_joining_17 rfl (lv_at hl 2 rfl) ?_
  refine lv_iload_n hx hb dX7_joining_18 rfl (lv_at hl 5 rfl) ?_
  obtain ⟨r_19, e_19, h⟩ := bnd_of h
  refine mCall (va_runV (As := [.int x3]) C.1 (cM_size e_19) (cwV 1 hts gX7_joining_X7_size rfl rfl rfl (by decide +kernel) ⟨by decide, by decide⟩) (mPreM C.2 hP hD _) rfl rfl hl.1 rfl (lv_room (Nat.le_of_ble_eq_true rfl)) dX7_joining_19 ⟨Nat.zero_le _, Nat.zero_le _⟩) hS hD (fun _ h => Or.inr h) (fun H locs hP hS => ?_)
  refine lv_aload_n hx hb dX7_joining_22 rfl (lv_at hl 2 rfl) ?_
  refine mG_14 C in_7 hP k_53 dX7_joining_23 ?_
  refine lv_lstore (lv' := [(8, .long (r_19.2.1 14)), (6, .long (r_2.2.1 15)), (4, .long (r_2.2.1 14)), (0, .ref (ρ 40)), (1, .int x1), (2, .int x2), (3, .int x3)]) hx hb dX7_joining_26 hl (by decide) rfl (fun ls hl => ?_)
  refine lv_aload_n hx hb dX7_joining_28 rfl (lv_at hl 3 rfl) ?_
  refine mG_15 C in_7 hP k_57 dX7_joining_29 ?_
  refine lv_lstore (lv' := [(10, .long (r_19.2.1 15)), (8, .long (r_19.2.1 14)), (6, .long (r_2.2.1 15)), (4, .long (r_2.2.1 14)), (0, .ref (ρ 40)), (1, .int x1), (2, .int x2), (3, .int x3)]) hx hb dX7_joining_32 hl (by decide) rfl (fun ls hl => ?_)
  refine lv_iload_n hx hb dX7_joining_34 rfl (lv_at hl 5 rfl) ?_
  refine lv_iconst (v := (1 : Int32)) hx hb dX7_joining_35 (by decide) ?_
  refine lv_icmp_ne (tgt := 45) hx hb dX7_joining_36 (by decide) (fun c_36 => ?_) (fun c_36 => ?_)
  · have h := zz_neg c_36 h
    refine lv_ldc2 hx hb hown k_162 dX7_joining_45 ?_
    exact wM_joining_J48 C hr hlk hD _ _ _ _ _ _ _ _ _ _ h hP hS (lv_sub hl [4, 5, 3, 2, 1, 0] rfl)
  · have h := zz_pos c_36 h
    refine lv_ldc2 hx hb hown k_160 dX7_joining_39 ?_
    refine lv_goto (tgt := 48) hx hb dX7_joining_42 (by decide) ?_
    exact wM_joining_J48 C hr hlk hD _ _ _ _ _ _ _ _ _ _ h hP hS (lv_sub hl [4, 5, 3, 2, 1, 0] rfl)
def fM_bits_L4 (N : Nat) (σ : MSt) : Nat → Int32 → Int32 → Option (Int32)
  | 0, _, _ => none
  | n + 1, x2, x3 => (if x3 = 0 then some x2 else fM_bits_L4 N σ n (x2 + 1) (x3 &&& (x3 - (1 : Int32))))
def fM_bits (N : Nat) (σ : MSt) (x1 : Int32) : Option (Int32) := fM_bits_L4 N σ N (0 : Int32) x1
set_option maxRecDepth 100000 in
set_option maxHeartbeats 4000000 in
theorem wM_bits_L4 {p : Program} {l : Launch} {e : Env} {s : State} {m : MethodId} {args : Array Value} {below : List Frame} {meth : Method} {c : Code} {D : va_G} {κ : Nat → ClassId} {ρ : Nat → Nat} {σ : MSt} (C : MC p m c cX7_bits 4 s args wsX7_bits D κ) (hr : meth.sig.returnType = (some .int)) (hlk : meth.locks = false) (hP : va_P D vwCl (cellsM κ ρ σ) s.heap) {N : Nat} {r : Int32} : ∀ (n : Nat) (x2 : Int32) (x3 : Int32) (ls : Array Slot), fM_bits_L4 N σ n x2 x3 = some r → lv_has ls 4 [(2, .int x2), (3, .int x3)] → W p l e ({ frames := 0, cells := 0, slots := 0, locals := 0 } : Room) s m args below meth c s.heap [] 0 0 (MQ below (PU (some (.int r))) args s 0 0 (fun _ => False)) (F0 m 4 ls []) := by
  have hx := C.1.1
  have hb := C.1.2.1
  have hts := C.1.2.2.2.2
  have hown := C.1.2.2.2.1
  intro n
  induction n with
  | zero =>
    intro x2 x3 ls h hl
    rw [fM_bits_L4] at h
    cases h
  | succ n ih =>
    intro x2 x3 ls h hl
    rw [fM_bits_L4] at h
    refine lv_iload_n hx hb dX7_bits_4 rfl (lv_at hl 1 rfl) ?_
    refine lv_if_eq (tgt := 20) hx hb dX7_bits_5 (by decide) (fun c_5 => ?_) (fun c_5 => ?_)
    · have h := zz_pos c_5 h
      refine lv_iload_n hx hb dX7_bits_20 rfl (lv_at hl 0 rfl) ?_
      exact W.iret hx hb hr (fun t ht hW => ⟨by rw [some_of h], ht⟩) (fun _ h => by cases h) dX7_bits_21
    · have h := zz_neg c_5 h
      refine lv_iinc (v := (x2 + 1)) (lv' := [(2, .int (x2 + 1)), (3, .int x3)]) hx hb dX7_bits_8 hl (k := 0) rfl rfl (by decide) rfl (fun ls hl => ?_)
      refine lv_iload_n hx hb dX7_bits_11 rfl (lv_at hl 1 rfl) ?_
      refine lv_iload_n hx hb dX7_bits_12 rfl (lv_at hl 1 rfl) ?_
      refine lv_iconst (v := (1 : Int32)) hx hb dX7_bits_13 (by decide) ?_
      refine lv_isub hx hb dX7_bits_14 ?_
      refine lv_iand hx hb dX7_bits_15 ?_
      refine lv_istore_n (lv' := [(3, .int (x3 &&& (x3 - (1 : Int32)))), (2, .int (x2 + 1))]) hx hb dX7_bits_16 rfl hl (by decide) rfl (fun ls hl => ?_)
      refine lv_goto (tgt := 4) hx hb dX7_bits_17 (by decide) ?_
      exact ih _ _ _ h (lv_sub hl [1, 0] rfl)
set_option maxRecDepth 100000 in
set_option maxHeartbeats 4000000 in
theorem cM_bits {l : Launch} {D : va_G} {κ : Nat → ClassId} {ρ : Nat → Nat} {N : Nat} {σ : MSt} {x1 : Int32} {r : Int32} (h : fM_bits N σ x1 = some r) : Met l yX7_bits wsX7_bits ({ frames := 0, cells := 0, slots := 0, locals := 0 } : Room) (va_Pc [.ref (ρ 40), .int x1] (PR D κ ρ σ)) (PU (some (.int r))) 0 0 (fun _ => False) := by
  refine mMetR (ret := (some .int)) (by decide) rfl rfl (Nat.le_of_ble_eq_true rfl) ?_
  intro p e s m below meth c ls C hr hlk hP hl
  have hl : lv_has ls 4 [(0, .ref (ρ 40)), (1, .int x1)] := hl
  unfold fM_bits at h
  have hx := C.1.1
  have hb := C.1.2.1
  have hts := C.1.2.2.2.2
  have hown := C.1.2.2.2.1
  refine lv_iconst (v := (0 : Int32)) hx hb dX7_bits_0 (by decide) ?_
  refine lv_istore_n (lv' := [(2, .int (0 : Int32)), (0, .ref (ρ 40)), (1, .int x1)]) hx hb dX7_bits_1 rfl hl (by decide) rfl (fun ls hl => ?_)
  refine lv_iload_n hx hb dX7_bits_2 rfl (lv_at hl 2 rfl) ?_
  refine lv_istore_n (lv' := [(3, .int x1), (2, .int (0 : Int32)), (0, .ref (ρ 40)), (1, .int x1)]) hx hb dX7_bits_3 rfl hl (by decide) rfl (fun ls hl => ?_)
  exact wM_bits_L4 C hr hlk hP _ _ _ _ h (lv_sub hl [1, 0] rfl)
def fM_digits (N : Nat) (σ : MSt) (x1 : Int32) : Option (Int32) := (fM_bits N σ x1).bind fun r_3 => some (((2 : Int32) * r_3) - (1 : Int32))
set_option maxRecDepth 100000 in
set_option maxHeartbeats 4000000 in
theorem cM_digits {l : Launch} {D : va_G} {κ : Nat → ClassId} {ρ : Nat → Nat} {N : Nat} {σ : MSt} {x1 : Int32} {r : Int32} (h : fM_digits N σ x1 = some r) : Met l yX7_digits wsX7_digits ({ frames := 1, cells := 0, slots := 0, locals := 23 } : Room) (va_Pc [.ref (ρ 40), .int x1] (PR D κ ρ σ)) (PU (some (.int r))) 0 0 (fun _ => False) := by
  refine mMetR (ret := (some .int)) (by decide) rfl rfl (Nat.le_of_ble_eq_true rfl) ?_
  intro p e s m below meth c ls C hr hlk hP hl
  have hl : lv_has ls 2 [(0, .ref (ρ 40)), (1, .int x1)] := hl
  unfold fM_digits at h
  have hx := C.1.1
  have hb := C.1.2.1
  have hts := C.1.2.2.2.2
  have hown := C.1.2.2.2.1
  refine lv_iconst (v := (2 : Int32)) hx hb dX7_digits_0 (by decide) ?_
  refine lv_aload_n hx hb dX7_digits_1 rfl (lv_at hl 0 rfl) ?_
  refine lv_iload_n hx hb dX7_digits_2 rfl (lv_at hl 1 rfl) ?_
  obtain ⟨r_3, e_3, h⟩ := bnd_of h
  refine callP (W.runV (As := [.int x1]) C.1 (cM_bits e_3) (cwV 1 hts gX7_digits_X7_bits rfl rfl rfl (by decide +kernel) ⟨by decide, by decide⟩) (mPreR C.2 hP _) rfl rfl hl.1 rfl (lv_room (Nat.le_of_ble_eq_true rfl)) dX7_digits_3 ⟨Nat.zero_le _, Nat.zero_le _⟩) ?_
  refine lv_imul hx hb dX7_digits_6 ?_
  refine lv_iconst (v := (1 : Int32)) hx hb dX7_digits_7 (by decide) ?_
  refine lv_isub hx hb dX7_digits_8 ?_
  exact W.iret hx hb hr (fun t ht hW => ⟨by rw [some_of h], ht⟩) (fun _ h => by cases h) dX7_digits_9
def fM_shifted (N : Nat) (σ : MSt) (x1 : Int32) (x2 : Int32) : Option (Int32) := some (x1 <<< (((3 : Int32) * x2) &&& 31))
set_option maxRecDepth 100000 in
set_option maxHeartbeats 4000000 in
theorem cM_shifted {l : Launch} {D : va_G} {κ : Nat → ClassId} {ρ : Nat → Nat} {N : Nat} {σ : MSt} {x1 : Int32} {x2 : Int32} {r : Int32} (h : fM_shifted N σ x1 x2 = some r) : Met l yX7_shifted wsX7_shifted ({ frames := 0, cells := 0, slots := 0, locals := 0 } : Room) (va_Pc [.ref (ρ 40), .int x1, .int x2] (PR D κ ρ σ)) (PU (some (.int r))) 0 0 (fun _ => False) := by
  refine mMetR (ret := (some .int)) (by decide) rfl rfl (Nat.le_of_ble_eq_true rfl) ?_
  intro p e s m below meth c ls C hr hlk hP hl
  have hl : lv_has ls 3 [(0, .ref (ρ 40)), (1, .int x1), (2, .int x2)] := hl
  unfold fM_shifted at h
  have hx := C.1.1
  have hb := C.1.2.1
  have hts := C.1.2.2.2.2
  have hown := C.1.2.2.2.1
  refine lv_iload_n hx hb dX7_shifted_0 rfl (lv_at hl 1 rfl) ?_
  refine lv_iconst (v := (3 : Int32)) hx hb dX7_shifted_1 (by decide) ?_
  refine lv_iload_n hx hb dX7_shifted_2 rfl (lv_at hl 2 rfl) ?_
  refine lv_imul hx hb dX7_shifted_3 ?_
  refine lv_ishl hx hb dX7_shifted_4 ?_
  exact W.iret hx hb hr (fun t ht hW => ⟨by rw [some_of h], ht⟩) (fun _ h => by cases h) dX7_shifted_5
