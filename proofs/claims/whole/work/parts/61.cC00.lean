/-! the class, C: forgetPrices, table, row, pair, order, clear, measure, keep, read, planAt, join, code, about, price, best, tellSpans, spans, border, keen, areHundredths -/
def fC_forgetPrices (N : Nat) (σ : CSt) : Option (CSt) := some (cI (cI σ 607 (0 : Int32)) 608 (0 : Int32))
set_option maxRecDepth 100000 in
set_option maxHeartbeats 4000000 in
theorem cC_forgetPrices {l : Launch} {D : va_G} {κ : Nat → ClassId} {ρ : Nat → Nat} {g0 : Gh} {sz : Nat} {N : Nat} {σ : CSt} {q : CSt} (h : fC_forgetPrices N σ = some q) : Met l yX6_forgetPrices wsX6_forgetPrices ({ frames := 0, cells := 0, slots := 0, locals := 0 } : Room) (va_Pc [.ref (ρ 699)] (PC D κ ρ sz g0 σ)) (QC D κ ρ sz g0 q none) 0 0 (AC ρ g0 sz) := by
  refine cMetM (Qc := fun z => QC D κ ρ z g0 q none) (ret := none) (by decide) rfl rfl (Nat.le_of_ble_eq_true rfl) ?_
  intro p e s m below meth c ls C hr hlk hw hl
  obtain ⟨g, eg⟩ : ∃ x, x = g0 := ⟨_, rfl⟩
  have hw : WC D κ ρ (AC ρ g0 s.heap.size) s.heap g σ s s.heap [] := by rw [eg]; exact hw
  have hg : sub g0 g := by rw [eg]; exact sub_rf g0
  have hl : lv_has ls 1 [(0, .ref (ρ 699))] := hl
  unfold fC_forgetPrices at h
  have hx := C.1
  have hb := C.2.1
  have hts := C.2.2.2.2
  have hown := C.2.2.2.1
  have k_228 := hts (.fieldLink RX6 228 "PlanCabinet" "measured" "Z") (by decide +kernel)
  have k_231 := hts (.fieldLink RX6 231 "PlanCabinet" "spansTold" "Z") (by decide +kernel)
  have in_6 : ∀ w ∈ wsX60, w ∈ wsX6_forgetPrices := by decide +kernel
  refine lv_aload_n hx hb dX6_forgetPrices_0 rfl (lv_at hl 0 rfl) ?_
  refine lv_iconst (v := (0 : Int32)) hx hb dX6_forgetPrices_1 (by decide) ?_
  refine cPf_607 C in_6 hw k_228 (by decide +kernel) (by decide +kernel) dX6_forgetPrices_2 (fun H locs hw => ?_)
  refine lv_aload_n hx hb dX6_forgetPrices_5 rfl (lv_at hl 0 rfl) ?_
  refine lv_iconst (v := (0 : Int32)) hx hb dX6_forgetPrices_6 (by decide) ?_
  refine cPf_608 C in_6 hw k_231 (by decide +kernel) (by decide +kernel) dX6_forgetPrices_7 (fun H locs hw => ?_)
  exact W.vret hx hb hr (fun t ht hW => QC.of rfl (by rw [← some_of h]; exact hw) hg ht hW) hw.2.2.2.2 dX6_forgetPrices_10
def fC_table (N : Nat) (σ : CSt) : Option (Int32 × CSt) := (if (σ.1 606) ≤ 0 then (if (σ.1 300) < (4 : Int32) then (fC_forgetPrices N σ).bind fun r_25 => (fQ_addTable N r_25).bind fun r_32 => some (r_32.1, r_32.2) else some ((-4 : Int32), σ)) else some ((-3 : Int32), σ))
set_option maxRecDepth 100000 in
set_option maxHeartbeats 4000000 in
theorem cC_table {l : Launch} {D : va_G} {κ : Nat → ClassId} {ρ : Nat → Nat} {g0 : Gh} {sz : Nat} {N : Nat} {σ : CSt} {q : Int32 × CSt} (h : fC_table N σ = some q) : Met l yX6_table wsX6_table ({ frames := 1, cells := 0, slots := 0, locals := 20 } : Room) (va_Pc [.ref (ρ 699)] (PC D κ ρ sz g0 σ)) (QC D κ ρ sz g0 q.2 (some (.int q.1))) 0 0 (AC ρ g0 sz) := by
  refine cMetM (Qc := fun z => QC D κ ρ z g0 q.2 (some (.int q.1))) (ret := (some .int)) (by decide) rfl rfl (Nat.le_of_ble_eq_true rfl) ?_
  intro p e s m below meth c ls C hr hlk hw hl
  obtain ⟨g, eg⟩ : ∃ x, x = g0 := ⟨_, rfl⟩
  have hw : WC D κ ρ (AC ρ g0 s.heap.size) s.heap g σ s s.heap [] := by rw [eg]; exact hw
  have hg : sub g0 g := by rw [eg]; exact sub_rf g0
  have hl : lv_has ls 1 [(0, .ref (ρ 699))] := hl
  unfold fC_table at h
  have hx := C.1
  have hb := C.2.1
  have hts := C.2.2.2.2
  have hown := C.2.2.2.1
  have k_14 := hts (.fieldLink RX6 14 "PlanCabinet" "question" "LPlanCabinet$Question;") (by decide +kernel)
  have k_58 := hts (.fieldLink RX6 58 "PlanCabinet" "planCount" "I") (by decide +kernel)
  have k_62 := hts (.fieldLink RX6 62 "PlanCabinet$Question" "tableCount" "I") (by decide +kernel)
  have in_3 : ∀ w ∈ wsX30, w ∈ wsX6_table := by decide +kernel
  have in_6 : ∀ w ∈ wsX60, w ∈ wsX6_table := by decide +kernel
  refine lv_aload_n hx hb dX6_table_0 rfl (lv_at hl 0 rfl) ?_
  refine cG_606 C in_6 hw.1 k_58 dX6_table_1 ?_
  refine lv_if_le (tgt := 10) hx hb dX6_table_4 (by decide) (fun c_4 => ?_) (fun c_4 => ?_)
  · have h := zz_pos c_4 h
    refine lv_aload_n hx hb dX6_table_10 rfl (lv_at hl 0 rfl) ?_
    refine cG_600 C in_6 hw.1 k_14 dX6_table_11 ?_
    refine cG_300 C in_3 hw.1 k_62 dX6_table_14 ?_
    refine lv_iconst (v := (4 : Int32)) hx hb dX6_table_17 (by decide) ?_
    refine lv_icmp_lt (tgt := 24) hx hb dX6_table_18 (by decide) (fun c_18 => ?_) (fun c_18 => ?_)
    · have h := zz_pos c_18 h
      refine lv_aload_n hx hb dX6_table_24 rfl (lv_at hl 0 rfl) ?_
      obtain ⟨r_25, e_25, h⟩ := bnd_of h
      refine callC (va_runV (As := []) C (cC_forgetPrices e_25) (cwV 0 hts gX6_table_X6_forgetPrices rfl rfl rfl (by decide +kernel) ⟨by decide, by decide⟩) (preM (recv_699 hw.1) hw) rfl rfl hl.1 rfl (lv_room (Nat.le_of_ble_eq_true rfl)) dX6_table_25 ⟨Nat.zero_le _, Nat.zero_le _⟩) hw (fun _ h => Or.inr h) (fun g H locs hs hw => ?_)
      have hg := sub_tr hg hs
      refine lv_aload_n hx hb dX6_table_28 rfl (lv_at hl 0 rfl) ?_
      refine cG_600 C in_6 hw.1 k_14 dX6_table_29 ?_
      obtain ⟨r_32, e_32, h⟩ := bnd_of h
      refine callC (va_runV (As := []) C (cQ_addTable e_32) (cwV 0 hts gX6_table_X3_addTable rfl rfl rfl (by decide +kernel) ⟨by decide, by decide⟩) (preM (recv_399 hw.1) hw) rfl rfl hl.1 rfl (lv_room (Nat.le_of_ble_eq_true rfl)) dX6_table_32 ⟨Nat.zero_le _, Nat.zero_le _⟩) hw (fun _ h => Or.inr h) (fun g H locs hs hw => ?_)
      have hg := sub_tr hg hs
      exact W.iret hx hb hr (fun t ht hW => QC.of (by rw [← some_of h]) (by rw [← some_of h]; exact hw) hg ht hW) hw.2.2.2.2 dX6_table_35
    · have h := zz_neg c_18 h
      refine lv_bipush (v := (-4 : Int32)) hx hb dX6_table_21 (by decide) ?_
      exact W.iret hx hb hr (fun t ht hW => QC.of (by rw [← some_of h]) (by rw [← some_of h]; exact hw) hg ht hW) hw.2.2.2.2 dX6_table_23
  · have h := zz_neg c_4 h
    refine lv_bipush (v := (-3 : Int32)) hx hb dX6_table_7 (by decide) ?_
    exact W.iret hx hb hr (fun t ht hW => QC.of (by rw [← some_of h]) (by rw [← some_of h]; exact hw) hg ht hW) hw.2.2.2.2 dX6_table_9
def fC_row (N : Nat) (σ : CSt) (x1 : Int32) (x2 : Int32) (x3 : Int32) (x4 : Int32) : Option (Int32 × CSt) := (fQ_isTable N σ x1).bind fun r_5 => (if r_5 = 0 then some ((-1 : Int32), σ) else (if (σ.1 606) ≤ 0 then (fQ_rowsOf N σ x1).bind fun r_28 => (if r_28 < (8 : Int32) then (fC_forgetPrices N σ).bind fun r_40 => (fQ_addRow N r_40 x1 x2 x3 x4).bind fun r_52 => some (r_52.1, r_52.2) else some ((-4 : Int32), σ)) else some ((-3 : Int32), σ)))
set_option maxRecDepth 100000 in
set_option maxHeartbeats 4000000 in
theorem cC_row {l : Launch} {D : va_G} {κ : Nat → ClassId} {ρ : Nat → Nat} {g0 : Gh} {sz : Nat} {N : Nat} {σ : CSt} {x1 : Int32} {x2 : Int32} {x3 : Int32} {x4 : Int32} {q : Int32 × CSt} (h : fC_row N σ x1 x2 x3 x4 = some q) : Met l yX6_row wsX6_row ({ frames := 3, cells := 0, slots := 0, locals := 68 } : Room) (va_Pc [.ref (ρ 699), .int x1, .int x2, .int x3, .int x4] (PC D κ ρ sz g0 σ)) (QC D κ ρ sz g0 q.2 (some (.int q.1))) 0 0 (AC ρ g0 sz) := by
  refine cMetM (Qc := fun z => QC D κ ρ z g0 q.2 (some (.int q.1))) (ret := (some .int)) (by decide) rfl rfl (Nat.le_of_ble_eq_true rfl) ?_
  intro p e s m below meth c ls C hr hlk hw hl
  obtain ⟨g, eg⟩ : ∃ x, x = g0 := ⟨_, rfl⟩
  have hw : WC D κ ρ (AC ρ g0 s.heap.size) s.heap g σ s s.heap [] := by rw [eg]; exact hw
  have hg : sub g0 g := by rw [eg]; exact sub_rf g0
  have hl : lv_has ls 5 [(0, .ref (ρ 699)), (1, .int x1), (2, .int x2), (3, .int x3), (4, .int x4)] := hl
  unfold fC_row at h
  have hx := C.1
  have hb := C.2.1
  have hts := C.2.2.2.2
  have hown := C.2.2.2.1
  have k_14 := hts (.fieldLink RX6 14 "PlanCabinet" "question" "LPlanCabinet$Question;") (by decide +kernel)
  have k_58 := hts (.fieldLink RX6 58 "PlanCabinet" "planCount" "I") (by decide +kernel)
  have in_6 : ∀ w ∈ wsX60, w ∈ wsX6_row := by decide +kernel
  refine lv_aload_n hx hb dX6_row_0 rfl (lv_at hl 0 rfl) ?_
  refine cG_600 C in_6 hw.1 k_14 dX6_row_1 ?_
  refine lv_iload_n hx hb dX6_row_4 rfl (lv_at hl 1 rfl) ?_
  obtain ⟨r_5, e_5, h⟩ := bnd_of h
  refine callP (W.runV (As := [.int x1]) C (cQ_isTable e_5) (cwV 1 hts gX6_row_X3_isTable rfl rfl rfl (by decide +kernel) ⟨by decide, by decide⟩) (preR (recv_399 hw.1) hw.1) rfl rfl hl.1 rfl (lv_room (Nat.le_of_ble_eq_true rfl)) dX6_row_5 ⟨Nat.zero_le _, Nat.zero_le _⟩) ?_
  refine lv_if_ne (tgt := 13) hx hb dX6_row_8 (by decide) (fun c_8 => ?_) (fun c_8 => ?_)
  · have h := zz_neg c_8 h
    refine lv_aload_n hx hb dX6_row_13 rfl (lv_at hl 0 rfl) ?_
    refine cG_606 C in_6 hw.1 k_58 dX6_row_14 ?_
    refine lv_if_le (tgt := 23) hx hb dX6_row_17 (by decide) (fun c_17 => ?_) (fun c_17 => ?_)
    · have h := zz_pos c_17 h
      refine lv_aload_n hx hb dX6_row_23 rfl (lv_at hl 0 rfl) ?_
      refine cG_600 C in_6 hw.1 k_14 dX6_row_24 ?_
      refine lv_iload_n hx hb dX6_row_27 rfl (lv_at hl 1 rfl) ?_
      obtain ⟨r_28, e_28, h⟩ := bnd_of h
      refine callP (W.runV (As := [.int x1]) C (cQ_rowsOf e_28) (cwV 1 hts gX6_row_X3_rowsOf rfl rfl rfl (by decide +kernel) ⟨by decide, by decide⟩) (preR (recv_399 hw.1) hw.1) rfl rfl hl.1 rfl (lv_room (Nat.le_of_ble_eq_true rfl)) dX6_row_28 ⟨Nat.zero_le _, Nat.zero_le _⟩) ?_
      refine lv_bipush (v := (8 : Int32)) hx hb dX6_row_31 (by decide) ?_
      refine lv_icmp_lt (tgt := 39) hx hb dX6_row_33 (by decide) (fun c_33 => ?_) (fun c_33 => ?_)
      · have h := zz_pos c_33 h
        refine lv_aload_n hx hb dX6_row_39 rfl (lv_at hl 0 rfl) ?_
        obtain ⟨r_40, e_40, h⟩ := bnd_of h
        refine callC (va_runV (As := []) C (cC_forgetPrices e_40) (cwV 0 hts gX6_row_X6_forgetPrices rfl rfl rfl (by decide +kernel) ⟨by decide, by decide⟩) (preM (recv_699 hw.1) hw) rfl rfl hl.1 rfl (lv_room (Nat.le_of_ble_eq_true rfl)) dX6_row_40 ⟨Nat.zero_le _, Nat.zero_le _⟩) hw (fun _ h => Or.inr h) (fun g H locs hs hw => ?_)
        have hg := sub_tr hg hs
        refine lv_aload_n hx hb dX6_row_43 rfl (lv_at hl 0 rfl) ?_
        refine cG_600 C in_6 hw.1 k_14 dX6_row_44 ?_
        refine lv_iload_n hx hb dX6_row_47 rfl (lv_at hl 1 rfl) ?_
        refine lv_iload_n hx hb dX6_row_48 rfl (lv_at hl 2 rfl) ?_
        refine lv_iload_n hx hb dX6_row_49 rfl (lv_at hl 3 rfl) ?_
        refine lv_iload hx hb dX6_row_50 (lv_at hl 4 rfl) ?_
        obtain ⟨r_52, e_52, h⟩ := bnd_of h
        refine callC (va_runV (As := [.int x1, .int x2, .int x3, .int x4]) C (cQ_addRow e_52) (cwV 4 hts gX6_row_X3_addRow rfl rfl rfl (by decide +kernel) ⟨by decide, by decide⟩) (preM (recv_399 hw.1) hw) rfl rfl hl.1 rfl (lv_room (Nat.le_of_ble_eq_true rfl)) dX6_row_52 ⟨Nat.zero_le _, Nat.zero_le _⟩) hw (fun _ h => Or.inr h) (fun g H locs hs hw => ?_)
        have hg := sub_tr hg hs
        exact W.iret hx hb hr (fun t ht hW => QC.of (by rw [← some_of h]) (by rw [← some_of h]; exact hw) hg ht hW) hw.2.2.2.2 dX6_row_55
      · have h := zz_neg c_33 h
        refine lv_bipush (v := (-4 : Int32)) hx hb dX6_row_36 (by decide) ?_
        exact W.iret hx hb hr (fun t ht hW => QC.of (by rw [← some_of h]) (by rw [← some_of h]; exact hw) hg ht hW) hw.2.2.2.2 dX6_row_38
    · have h := zz_neg c_17 h
      refine lv_bipush (v := (-3 : Int32)) hx hb dX6_row_20 (by decide) ?_
      exact W.iret hx hb hr (fun t ht hW => QC.of (by rw [← some_of h]) (by rw [← some_of h]; exact hw) hg ht hW) hw.2.2.2.2 dX6_row_22
  · have h := zz_pos c_8 h
    refine lv_iconst (v := (-1 : Int32)) hx hb dX6_row_11 (by decide) ?_
    exact W.iret hx hb hr (fun t ht hW => QC.of (by rw [← some_of h]) (by rw [← some_of h]; exact hw) hg ht hW) hw.2.2.2.2 dX6_row_12
def fC_pair_J72 (N : Nat) (σ : CSt) (x1 : Int32) (x2 : Int32) (x3 : Int32) (x4 : Int32) (x5 : Int32) : Option (Int32 × CSt) := (if (σ.1 301) < (4 : Int32) then (fC_forgetPrices N σ).bind fun r_87 => (fQ_addPairing N r_87 x1 x2 x3 x4 x5).bind fun r_101 => some (r_101.1, r_101.2) else some ((-4 : Int32), σ))
def fC_pair (N : Nat) (σ : CSt) (x1 : Int32) (x2 : Int32) (x3 : Int32) (x4 : Int32) (x5 : Int32) : Option (Int32 × CSt) := (fQ_isField N σ x1 x2).bind fun r_6 => (if r_6 = 0 then some ((-1 : Int32), σ) else (fQ_isField N σ x3 x4).bind fun r_19 => (if r_19 = 0 then some ((-1 : Int32), σ) else (if x3 ≤ x1 then some ((-2 : Int32), σ) else (if x5 < 0 then some ((-2 : Int32), σ) else (if x5 ≤ (4 : Int32) then (if 0 < (σ.1 606) then some ((-3 : Int32), σ) else (if x5 = 0 then (if (σ.1 302) = (-1 : Int32) then fC_pair_J72 N σ x1 x2 x3 x4 x5 else some ((-3 : Int32), σ)) else fC_pair_J72 N σ x1 x2 x3 x4 x5)) else some ((-2 : Int32), σ))))))
set_option maxRecDepth 100000 in
set_option maxHeartbeats 4000000 in
theorem wC_pair_J72 {p : Program} {l : Launch} {e : Env} {s : State} {m : MethodId} {args : Array Value} {below : List Frame} {meth : Method} {c : Code} {D : va_G} {κ : Nat → ClassId} {ρ : Nat → Nat} {g0 : Gh} (C : CallFix p m c cX6_pair 6 s args wsX6_pair RX6) (hr : meth.sig.returnType = (some .int)) (hlk : meth.locks = false) {N : Nat} {q : Int32 × CSt} : ∀ (σ : CSt) (x1 : Int32) (x2 : Int32) (x3 : Int32) (x4 : Int32) (x5 : Int32) (g : Gh) (H : Heap) (locs : List Loc) (ls : Array Slot), fC_pair_J72 N σ x1 x2 x3 x4 x5 = some q → WC D κ ρ (AC ρ g0 s.heap.size) s.heap g σ s H locs → sub g0 g → lv_has ls 6 [(0, .ref (ρ 699)), (1, .int x1), (2, .int x2), (3, .int x3), (4, .int x4), (5, .int x5)] → W p l e ({ frames := 2, cells := 0, slots := 0, locals := 43 } : Room) s m args below meth c H locs 0 0 (MQ below (QC D κ ρ s.heap.size g0 q.2 (some (.int q.1))) args s 0 0 (AC ρ g0 s.heap.size)) (F0 m 72 ls []) := by
  have hx := C.1
  have hb := C.2.1
  have hts := C.2.2.2.2
  have hown := C.2.2.2.1
  have k_14 := hts (.fieldLink RX6 14 "PlanCabinet" "question" "LPlanCabinet$Question;") (by decide +kernel)
  have k_91 := hts (.fieldLink RX6 91 "PlanCabinet$Question" "pairingCount" "I") (by decide +kernel)
  have in_3 : ∀ w ∈ wsX30, w ∈ wsX6_pair := by decide +kernel
  have in_6 : ∀ w ∈ wsX60, w ∈ wsX6_pair := by decide +kernel
  intro σ x1 x2 x3 x4 x5 g H locs ls h hw hg hl
  unfold fC_pair_J72 at h
  refine lv_aload_n hx hb dX6_pair_72 rfl (lv_at hl 0 rfl) ?_
  refine cG_600 C in_6 hw.1 k_14 dX6_pair_73 ?_
  refine cG_301 C in_3 hw.1 k_91 dX6_pair_76 ?_
  refine lv_iconst (v := (4 : Int32)) hx hb dX6_pair_79 (by decide) ?_
  refine lv_icmp_lt (tgt := 86) hx hb dX6_pair_80 (by decide) (fun c_80 => ?_) (fun c_80 => ?_)
  · have h := zz_pos c_80 h
    refine lv_aload_n hx hb dX6_pair_86 rfl (lv_at hl 0 rfl) ?_
    obtain ⟨r_87, e_87, h⟩ := bnd_of h
    refine callC (va_runV (As := []) C (cC_forgetPrices e_87) (cwV 0 hts gX6_pair_X6_forgetPrices rfl rfl rfl (by decide +kernel) ⟨by decide, by decide⟩) (preM (recv_699 hw.1) hw) rfl rfl hl.1 rfl (lv_room (Nat.le_of_ble_eq_true rfl)) dX6_pair_87 ⟨Nat.zero_le _, Nat.zero_le _⟩) hw (fun _ h => Or.inr h) (fun g H locs hs hw => ?_)
    have hg := sub_tr hg hs
    refine lv_aload_n hx hb dX6_pair_90 rfl (lv_at hl 0 rfl) ?_
    refine cG_600 C in_6 hw.1 k_14 dX6_pair_91 ?_
    refine lv_iload_n hx hb dX6_pair_94 rfl (lv_at hl 1 rfl) ?_
    refine lv_iload_n hx hb dX6_pair_95 rfl (lv_at hl 2 rfl) ?_
    refine lv_iload_n hx hb dX6_pair_96 rfl (lv_at hl 3 rfl) ?_
    refine lv_iload hx hb dX6_pair_97 (lv_at hl 4 rfl) ?_
    refine lv_iload hx hb dX6_pair_99 (lv_at hl 5 rfl) ?_
    obtain ⟨r_101, e_101, h⟩ := bnd_of h
    refine callC (va_runV (As := [.int x1, .int x2, .int x3, .int x4, .int x5]) C (cQ_addPairing e_101) (cwV 5 hts gX6_pair_X3_addPairing rfl rfl rfl (by decide +kernel) ⟨by decide, by decide⟩) (preM (recv_399 hw.1) hw) rfl rfl hl.1 rfl (lv_room (Nat.le_of_ble_eq_true rfl)) dX6_pair_101 ⟨Nat.zero_le _, Nat.zero_le _⟩) hw (fun _ h => Or.inr h) (fun g H locs hs hw => ?_)
    have hg := sub_tr hg hs
    exact W.iret hx hb hr (fun t ht hW => QC.of (by rw [← some_of h]) (by rw [← some_of h]; exact hw) hg ht hW) hw.2.2.2.2 dX6_pair_104
  · have h := zz_neg c_80 h
    refine lv_bipush (v := (-4 : Int32)) hx hb dX6_pair_83 (by decide) ?_
    exact W.iret hx hb hr (fun t ht hW => QC.of (by rw [← some_of h]) (by rw [← some_of h]; exact hw) hg ht hW) hw.2.2.2.2 dX6_pair_85
set_option maxRecDepth 100000 in
set_option maxHeartbeats 4000000 in
theorem cC_pair {l : Launch} {D : va_G} {κ : Nat → ClassId} {ρ : Nat → Nat} {g0 : Gh} {sz : Nat} {N : Nat} {σ : CSt} {x1 : Int32} {x2 : Int32} {x3 : Int32} {x4 : Int32} {x5 : Int32} {q : Int32 × CSt} (h : fC_pair N σ x1 x2 x3 x4 x5 = some q) : Met l yX6_pair wsX6_pair ({ frames := 2, cells := 0, slots := 0, locals := 43 } : Room) (va_Pc [.ref (ρ 699), .int x1, .int x2, .int x3, .int x4, .int x5] (PC D κ ρ sz g0 σ)) (QC D κ ρ sz g0 q.2 (some (.int q.1))) 0 0 (AC ρ g0 sz) := by
  refine cMetM (Qc := fun z => QC D κ ρ z g0 q.2 (some (.int q.1))) (ret := (some .int)) (by decide) rfl rfl (Nat.le_of_ble_eq_true rfl) ?_
  intro p e s m below meth c ls C hr hlk hw hl
  obtain ⟨g, eg⟩ : ∃ x, x = g0 := ⟨_, rfl⟩
  have hw : WC D κ ρ (AC ρ g0 s.heap.size) s.heap g σ s s.heap [] := by rw [eg]; exact hw
  have hg : sub g0 g := by rw [eg]; exact sub_rf g0
  have hl : lv_has ls 6 [(0, .ref (ρ 699)), (1, .int x1), (2, .int x2), (3, .int x3), (4, .int x4), (5, .int x5)] := hl
  unfold fC_pair at h
  have hx := C.1
  have hb := C.2.1
  have hts := C.2.2.2.2
  have hown := C.2.2.2.1
  have k_14 := hts (.fieldLink RX6 14 "PlanCabinet" "question" "LPlanCabinet$Question;") (by decide +kernel)
  have k_58 := hts (.fieldLink RX6 58 "PlanCabinet" "planCount" "I") (by decide +kernel)
  have k_88 := hts (.fieldLink RX6 88 "PlanCabinet$Question" "openPairing" "I") (by decide +kernel)
  have in_3 : ∀ w ∈ wsX30, w ∈ wsX6_pair := by decide +kernel
  have in_6 : ∀ w ∈ wsX60, w ∈ wsX6_pair := by decide +kernel
  refine lv_aload_n hx hb dX6_pair_0 rfl (lv_at hl 0 rfl) ?_
  refine cG_600 C in_6 hw.1 k_14 dX6_pair_1 ?_
  refine lv_iload_n hx hb dX6_pair_4 rfl (lv_at hl 1 rfl) ?_
  refine lv_iload_n hx hb dX6_pair_5 rfl (lv_at hl 2 rfl) ?_
  obtain ⟨r_6, e_6, h⟩ := bnd_of h
  refine callP (W.runV (As := [.int x1, .int x2]) C (cQ_isField e_6) (cwV 2 hts gX6_pair_X3_isField rfl rfl rfl (by decide +kernel) ⟨by decide, by decide⟩) (preR (recv_399 hw.1) hw.1) rfl rfl hl.1 rfl (lv_room (Nat.le_of_ble_eq_true rfl)) dX6_pair_6 ⟨Nat.zero_le _, Nat.zero_le _⟩) ?_
  refine lv_if_eq (tgt := 25) hx hb dX6_pair_9 (by decide) (fun c_9 => ?_) (fun c_9 => ?_)
  · have h := zz_pos c_9 h
    refine lv_iconst (v := (-1 : Int32)) hx hb dX6_pair_25 (by decide) ?_
    exact W.iret hx hb hr (fun t ht hW => QC.of (by rw [← some_of h]) (by rw [← some_of h]; exact hw) hg ht hW) hw.2.2.2.2 dX6_pair_26
  · have h := zz_neg c_9 h
    refine lv_aload_n hx hb dX6_pair_12 rfl (lv_at hl 0 rfl) ?_
    refine cG_600 C in_6 hw.1 k_14 dX6_pair_13 ?_
    refine lv_iload_n hx hb dX6_pair_16 rfl (lv_at hl 3 rfl) ?_
    refine lv_iload hx hb dX6_pair_17 (lv_at hl 4 rfl) ?_
    obtain ⟨r_19, e_19, h⟩ := bnd_of h
    refine callP (W.runV (As := [.int x3, .int x4]) C (cQ_isField e_19) (cwV 2 hts gX6_pair_X3_isField rfl rfl rfl (by decide +kernel) ⟨by decide, by decide⟩) (preR (recv_399 hw.1) hw.1) rfl rfl hl.1 rfl (lv_room (Nat.le_of_ble_eq_true rfl)) dX6_pair_19 ⟨Nat.zero_le _, Nat.zero_le _⟩) ?_
    refine lv_if_ne (tgt := 27) hx hb dX6_pair_22 (by decide) (fun c_22 => ?_) (fun c_22 => ?_)
    · have h := zz_neg c_22 h
      refine lv_iload_n hx hb dX6_pair_27 rfl (lv_at hl 3 rfl) ?_
      refine lv_iload_n hx hb dX6_pair_28 rfl (lv_at hl 1 rfl) ?_
      refine lv_icmp_le (tgt := 43) hx hb dX6_pair_29 (by decide) (fun c_29 => ?_) (fun c_29 => ?_)
      · have h := zz_pos c_29 h
        refine lv_bipush (v := (-2 : Int32)) hx hb dX6_pair_43 (by decide) ?_
        exact W.iret hx hb hr (fun t ht hW => QC.of (by rw [← some_of h]) (by rw [← some_of h]; exact hw) hg ht hW) hw.2.2.2.2 dX6_pair_45
      · have h := zz_neg c_29 h
        refine lv_iload hx hb dX6_pair_32 (lv_at hl 5 rfl) ?_
        refine lv_if_lt (tgt := 43) hx hb dX6_pair_34 (by decide) (fun c_34 => ?_) (fun c_34 => ?_)
        · have h := zz_pos c_34 h
          refine lv_bipush (v := (-2 : Int32)) hx hb dX6_pair_43 (by decide) ?_
          exact W.iret hx hb hr (fun t ht hW => QC.of (by rw [← some_of h]) (by rw [← some_of h]; exact hw) hg ht hW) hw.2.2.2.2 dX6_pair_45
        · have h := zz_neg c_34 h
          refine lv_iload hx hb dX6_pair_37 (lv_at hl 5 rfl) ?_
          refine lv_iconst (v := (4 : Int32)) hx hb dX6_pair_39 (by decide) ?_
          refine lv_icmp_le (tgt := 46) hx hb dX6_pair_40 (by decide) (fun c_40 => ?_) (fun c_40 => ?_)
          · have h := zz_pos c_40 h
            refine lv_aload_n hx hb dX6_pair_46 rfl (lv_at hl 0 rfl) ?_
            refine cG_606 C in_6 hw.1 k_58 dX6_pair_47 ?_
            refine lv_if_gt (tgt := 69) hx hb dX6_pair_50 (by decide) (fun c_50 => ?_) (fun c_50 => ?_)
            · have h := zz_pos c_50 h
              refine lv_bipush (v := (-3 : Int32)) hx hb dX6_pair_69 (by decide) ?_
              exact W.iret hx hb hr (fun t ht hW => QC.of (by rw [← some_of h]) (by rw [← some_of h]; exact hw) hg ht hW) hw.2.2.2.2 dX6_pair_71
            · have h := zz_neg c_50 h
              refine lv_iload hx hb dX6_pair_53 (lv_at hl 5 rfl) ?_
              refine lv_if_ne (tgt := 72) hx hb dX6_pair_55 (by decide) (fun c_55 => ?_) (fun c_55 => ?_)
              · have h := zz_neg c_55 h
                exact wC_pair_J72 C hr hlk  _ _ _ _ _ _ _ _ _ _ h hw hg (lv_sub hl [0, 1, 2, 3, 4, 5] rfl)
              · have h := zz_pos c_55 h
                refine lv_aload_n hx hb dX6_pair_58 rfl (lv_at hl 0 rfl) ?_
                refine cG_600 C in_6 hw.1 k_14 dX6_pair_59 ?_
                refine cG_302 C in_3 hw.1 k_88 dX6_pair_62 ?_
                refine lv_iconst (v := (-1 : Int32)) hx hb dX6_pair_65 (by decide) ?_
                refine lv_icmp_eq (tgt := 72) hx hb dX6_pair_66 (by decide) (fun c_66 => ?_) (fun c_66 => ?_)
                · have h := zz_pos c_66 h
                  exact wC_pair_J72 C hr hlk  _ _ _ _ _ _ _ _ _ _ h hw hg (lv_sub hl [0, 1, 2, 3, 4, 5] rfl)
                · have h := zz_neg c_66 h
                  refine lv_bipush (v := (-3 : Int32)) hx hb dX6_pair_69 (by decide) ?_
                  exact W.iret hx hb hr (fun t ht hW => QC.of (by rw [← some_of h]) (by rw [← some_of h]; exact hw) hg ht hW) hw.2.2.2.2 dX6_pair_71
          · have h := zz_neg c_40 h
            refine lv_bipush (v := (-2 : Int32)) hx hb dX6_pair_43 (by decide) ?_
            exact W.iret hx hb hr (fun t ht hW => QC.of (by rw [← some_of h]) (by rw [← some_of h]; exact hw) hg ht hW) hw.2.2.2.2 dX6_pair_45
    · have h := zz_pos c_22 h
      refine lv_iconst (v := (-1 : Int32)) hx hb dX6_pair_25 (by decide) ?_
      exact W.iret hx hb hr (fun t ht hW => QC.of (by rw [← some_of h]) (by rw [← some_of h]; exact hw) hg ht hW) hw.2.2.2.2 dX6_pair_26
def fC_order_J29 (N : Nat) (σ : CSt) (x1 : Int32) (x2 : Int32) (x3 : Int32) : Option (Int32 × CSt) := (if (σ.1 606) ≤ 0 then (fC_forgetPrices N σ).bind fun r_40 => (if x3 = 0 then some ((0 : Int32), (cI (cI r_40 303 x1) 304 x2)) else some ((0 : Int32), (cI (cI r_40 303 x1) 304 (0 : Int32)))) else some ((-3 : Int32), σ))
def fC_order_J10 (N : Nat) (σ : CSt) (x1 : Int32) (x2 : Int32) (y0 : Int32) : Option (Int32 × CSt) := (if y0 = 0 then (fQ_isField N σ x1 x2).bind fun r_21 => (if r_21 = 0 then some ((-1 : Int32), σ) else fC_order_J29 N σ x1 x2 y0) else fC_order_J29 N σ x1 x2 y0)
def fC_order (N : Nat) (σ : CSt) (x1 : Int32) (x2 : Int32) : Option (Int32 × CSt) := (if x1 = (-1 : Int32) then fC_order_J10 N σ x1 x2 (1 : Int32) else fC_order_J10 N σ x1 x2 (0 : Int32))
set_option maxRecDepth 100000 in
set_option maxHeartbeats 4000000 in
theorem wC_order_J29 {p : Program} {l : Launch} {e : Env} {s : State} {m : MethodId} {args : Array Value} {below : List Frame} {meth : Method} {c : Code} {D : va_G} {κ : Nat → ClassId} {ρ : Nat → Nat} {g0 : Gh} (C : CallFix p m c cX6_order 4 s args wsX6_order RX6) (hr : meth.sig.returnType = (some .int)) (hlk : meth.locks = false) {N : Nat} {q : Int32 × CSt} : ∀ (σ : CSt) (x1 : Int32) (x2 : Int32) (x3 : Int32) (g : Gh) (H : Heap) (locs : List Loc) (ls : Array Slot), fC_order_J29 N σ x1 x2 x3 = some q → WC D κ ρ (AC ρ g0 s.heap.size) s.heap g σ s H locs → sub g0 g → lv_has ls 4 [(0, .ref (ρ 699)), (1, .int x1), (2, .int x2), (3, .int x3)] → W p l e ({ frames := 2, cells := 0, slots := 0, locals := 43 } : Room) s m args below meth c H locs 0 0 (MQ below (QC D κ ρ s.heap.size g0 q.2 (some (.int q.1))) args s 0 0 (AC ρ g0 s.heap.size)) (F0 m 29 ls []) := by
  have hx := C.1
  have hb := C.2.1
  have hts := C.2.2.2.2
  have hown := C.2.2.2.1
  have k_14 := hts (.fieldLink RX6 14 "PlanCabinet" "question" "LPlanCabinet$Question;") (by decide +kernel)
  have k_58 := hts (.fieldLink RX6 58 "PlanCabinet" "planCount" "I") (by decide +kernel)
  have k_98 := hts (.fieldLink RX6 98 "PlanCabinet$Question" "orderTable" "I") (by decide +kernel)
  have k_101 := hts (.fieldLink RX6 101 "PlanCabinet$Question" "orderColumn" "I") (by decide +kernel)
  have in_3 : ∀ w ∈ wsX30, w ∈ wsX6_order := by decide +kernel
  have in_6 : ∀ w ∈ wsX60, w ∈ wsX6_order := by decide +kernel
  intro σ x1 x2 x3 g H locs ls h hw hg hl
  unfold fC_order_J29 at h
  refine lv_aload_n hx hb dX6_order_29 rfl (lv_at hl 0 rfl) ?_
  refine cG_606 C in_6 hw.1 k_58 dX6_order_30 ?_
  refine lv_if_le (tgt := 39) hx hb dX6_order_33 (by decide) (fun c_33 => ?_) (fun c_33 => ?_)
  · have h := zz_pos c_33 h
    refine lv_aload_n hx hb dX6_order_39 rfl (lv_at hl 0 rfl) ?_
    obtain ⟨r_40, e_40, h⟩ := bnd_of h
    refine callC (va_runV (As := []) C (cC_forgetPrices e_40) (cwV 0 hts gX6_order_X6_forgetPrices rfl rfl rfl (by decide +kernel) ⟨by decide, by decide⟩) (preM (recv_699 hw.1) hw) rfl rfl hl.1 rfl (lv_room (Nat.le_of_ble_eq_true rfl)) dX6_order_40 ⟨Nat.zero_le _, Nat.zero_le _⟩) hw (fun _ h => Or.inr h) (fun g H locs hs hw => ?_)
    have hg := sub_tr hg hs
    refine lv_aload_n hx hb dX6_order_43 rfl (lv_at hl 0 rfl) ?_
    refine cG_600 C in_6 hw.1 k_14 dX6_order_44 ?_
    refine lv_iload_n hx hb dX6_order_47 rfl (lv_at hl 1 rfl) ?_
    refine cPf_303 C in_3 hw k_98 dX6_order_48 (fun H locs hw => ?_)
    refine lv_aload_n hx hb dX6_order_51 rfl (lv_at hl 0 rfl) ?_
    refine cG_600 C in_6 hw.1 k_14 dX6_order_52 ?_
    refine lv_iload_n hx hb dX6_order_55 rfl (lv_at hl 3 rfl) ?_
    refine lv_if_eq (tgt := 63) hx hb dX6_order_56 (by decide) (fun c_56 => ?_) (fun c_56 => ?_)
    · have h := zz_pos c_56 h
      refine lv_iload_n hx hb dX6_order_63 rfl (lv_at hl 2 rfl) ?_
      refine cPf_304 C in_3 hw k_101 dX6_order_64 (fun H locs hw => ?_)
      refine lv_iconst (v := (0 : Int32)) hx hb dX6_order_67 (by decide) ?_
      exact W.iret hx hb hr (fun t ht hW => QC.of (by rw [← some_of h]) (by rw [← some_of h]; exact hw) hg ht hW) hw.2.2.2.2 dX6_order_68
    · have h := zz_neg c_56 h
      refine lv_iconst (v := (0 : Int32)) hx hb dX6_order_59 (by decide) ?_
      refine lv_goto (tgt := 64) hx hb dX6_order_60 (by decide) ?_
      refine cPf_304 C in_3 hw k_101 dX6_order_64 (fun H locs hw => ?_)
      refine lv_iconst (v := (0 : Int32)) hx hb dX6_order_67 (by decide) ?_
      exact W.iret hx hb hr (fun t ht hW => QC.of (by rw [← some_of h]) (by rw [← some_of h]; exact hw) hg ht hW) hw.2.2.2.2 dX6_order_68
  · have h := zz_neg c_33 h
    refine lv_bipush (v := (-3 : Int32)) hx hb dX6_order_36 (by decide) ?_
    exact W.iret hx hb hr (fun t ht hW => QC.of (by rw [← some_of h]) (by rw [← some_of h]; exact hw) hg ht hW) hw.2.2.2.2 dX6_order_38
set_option maxRecDepth 100000 in
set_option maxHeartbeats 4000000 in
theorem wC_order_J10 {p : Program} {l : Launch} {e : Env} {s : State} {m : MethodId} {args : Array Value} {below : List Frame} {meth : Method} {c : Code} {D : va_G} {κ : Nat → ClassId} {ρ : Nat → Nat} {g0 : Gh} (C : CallFix p m c cX6_order 4 s args wsX6_order RX6) (hr : meth.sig.returnType = (some .int)) (hlk : meth.locks = false) {N : Nat} {q : Int32 × CSt} : ∀ (σ : CSt) (x1 : Int32) (x2 : Int32) (y0 : Int32) (g : Gh) (H : Heap) (locs : List Loc) (ls : Array Slot), fC_order_J10 N σ x1 x2 y0 = some q → WC D κ ρ (AC ρ g0 s.heap.size) s.heap g σ s H locs → sub g0 g → lv_has ls 4 [(0, .ref (ρ 699)), (1, .int x1), (2, .int x2)] → W p l e ({ frames := 2, cells := 0, slots := 0, locals := 43 } : Room) s m args below meth c H locs 0 0 (MQ below (QC D κ ρ s.heap.size g0 q.2 (some (.int q.1))) args s 0 0 (AC ρ g0 s.heap.size)) (F0 m 10 ls [.int y0]) := by
  have hx := C.1
  have hb := C.2.1
  have hts := C.2.2.2.2
  have hown := C.2.2.2.1
  have k_14 := hts (.fieldLink RX6 14 "PlanCabinet" "question" "LPlanCabinet$Question;") (by decide +kernel)
  have in_6 : ∀ w ∈ wsX60, w ∈ wsX6_order := by decide +kernel
  intro σ x1 x2 y0 g H locs ls h hw hg hl
  unfold fC_order_J10 at h
  refine lv_istore_n (lv' := [(3, .int y0), (0, .ref (ρ 699)), (1, .int x1), (2, .int x2)]) hx hb dX6_order_10 rfl hl (by decide) rfl (fun ls hl => ?_)
  refine lv_iload_n hx hb dX6_order_11 rfl (lv_at hl 0 rfl) ?_
  refine lv_if_ne (tgt := 29) hx hb dX6_order_12 (by decide) (fun c_12 => ?_) (fun c_12 => ?_)
  · have h := zz_neg c_12 h
    exact wC_order_J29 C hr hlk  _ _ _ _ _ _ _ _ h hw hg (lv_sub hl [1, 2, 3, 0] rfl)
  · have h := zz_pos c_12 h
    refine lv_aload_n hx hb dX6_order_15 rfl (lv_at hl 1 rfl) ?_
    refine cG_600 C in_6 hw.1 k_14 dX6_order_16 ?_
    refine lv_iload_n hx hb dX6_order_19 rfl (lv_at hl 2 rfl) ?_
    refine lv_iload_n hx hb dX6_order_20 rfl (lv_at hl 3 rfl) ?_
    obtain ⟨r_21, e_21, h⟩ := bnd_of h
    refine callP (W.runV (As := [.int x1, .int x2]) C (cQ_isField e_21) (cwV 2 hts gX6_order_X3_isField rfl rfl rfl (by decide +kernel) ⟨by decide, by decide⟩) (preR (recv_399 hw.1) hw.1) rfl rfl hl.1 rfl (lv_room (Nat.le_of_ble_eq_true rfl)) dX6_order_21 ⟨Nat.zero_le _, Nat.zero_le _⟩) ?_
    refine lv_if_ne (tgt := 29) hx hb dX6_order_24 (by decide) (fun c_24 => ?_) (fun c_24 => ?_)
    · have h := zz_neg c_24 h
      exact wC_order_J29 C hr hlk  _ _ _ _ _ _ _ _ h hw hg (lv_sub hl [1, 2, 3, 0] rfl)
    · have h := zz_pos c_24 h
      refine lv_iconst (v := (-1 : Int32)) hx hb dX6_order_27 (by decide) ?_
      exact W.iret hx hb hr (fun t ht hW => QC.of (by rw [← some_of h]) (by rw [← some_of h]; exact hw) hg ht hW) hw.2.2.2.2 dX6_order_28
set_option maxRecDepth 100000 in
set_option maxHeartbeats 4000000 in
theorem cC_order {l : Launch} {D : va_G} {κ : Nat → ClassId} {ρ : Nat → Nat} {g0 : Gh} {sz : Nat} {N : Nat} {σ : CSt} {x1 : Int32} {x2 : Int32} {q : Int32 × CSt} (h : fC_order N σ x1 x2 = some q) : Met l yX6_order wsX6_order ({ frames := 2, cells := 0, slots := 0, locals := 43 } : Room) (va_Pc [.ref (ρ 699), .int x1, .int x2] (PC D κ ρ sz g0 σ)) (QC D κ ρ sz g0 q.2 (some (.int q.1))) 0 0 (AC ρ g0 sz) := by
  refine cMetM (Qc := fun z => QC D κ ρ z g0 q.2 (some (.int q.1))) (ret := (some .int)) (by decide) rfl rfl (Nat.le_of_ble_eq_true rfl) ?_
  intro p e s m below meth c ls C hr hlk hw hl
  obtain ⟨g, eg⟩ : ∃ x, x = g0 := ⟨_, rfl⟩
  have hw : WC D κ ρ (AC ρ g0 s.heap.size) s.heap g σ s s.heap [] := by rw [eg]; exact hw
  have hg : sub g0 g := by rw [eg]; exact sub_rf g0
  have hl : lv_has ls 4 [(0, .ref (ρ 699)), (1, .int x1), (2, .int x2)] := hl
  unfold fC_order at h
  have hx := C.1
  have hb := C.2.1
  have hts := C.2.2.2.2
  have hown := C.2.2.2.1
  refine lv_iload_n hx hb dX6_order_0 rfl (lv_at hl 1 rfl) ?_
  refine lv_iconst (v := (-1 : Int32)) hx hb dX6_order_1 (by decide) ?_
  refine lv_icmp_ne (tgt := 9) hx hb dX6_order_2 (by decide) (fun c_2 => ?_) (fun c_2 => ?_)
  · have h := zz_neg c_2 h
    refine lv_iconst (v := (0 : Int32)) hx hb dX6_order_9 (by decide) ?_
    exact wC_order_J10 C hr hlk  _ _ _ _ _ _ _ _ h hw hg (lv_sub hl [0, 1, 2] rfl)
  · have h := zz_pos c_2 h
    refine lv_iconst (v := (1 : Int32)) hx hb dX6_order_5 (by decide) ?_
    refine lv_goto (tgt := 10) hx hb dX6_order_6 (by decide) ?_
    exact wC_order_J10 C hr hlk  _ _ _ _ _ _ _ _ h hw hg (lv_sub hl [0, 1, 2] rfl)
def fC_clear_L7 (N : Nat) : Nat → CSt → Int32 → Int32 → Option (Int32 × CSt)
  | 0, _, _, _ => none
  | n + 1, σ, x1, x2 => (if (60 : Int32) ≤ x2 then some (x1, (cI σ 606 (0 : Int32))) else chk x2 60 (fC_clear_L7 N n (cP σ 605 x2.toNatClampNeg none) x1 (x2 + 1)))
def fC_clear (N : Nat) (σ : CSt) : Option (Int32 × CSt) := fC_clear_L7 N N σ (σ.1 606) (0 : Int32)
set_option maxRecDepth 100000 in
set_option maxHeartbeats 4000000 in
theorem wC_clear_L7 {p : Program} {l : Launch} {e : Env} {s : State} {m : MethodId} {args : Array Value} {below : List Frame} {meth : Method} {c : Code} {D : va_G} {κ : Nat → ClassId} {ρ : Nat → Nat} {g0 : Gh} (C : CallFix p m c cX6_clear 3 s args wsX6_clear RX6) (hr : meth.sig.returnType = (some .int)) (hlk : meth.locks = false) {N : Nat} {q : Int32 × CSt} : ∀ (n : Nat) (σ : CSt) (x1 : Int32) (x2 : Int32) (g : Gh) (H : Heap) (locs : List Loc) (ls : Array Slot), fC_clear_L7 N n σ x1 x2 = some q → WC D κ ρ (AC ρ g0 s.heap.size) s.heap g σ s H locs → sub g0 g → lv_has ls 3 [(0, .ref (ρ 699)), (1, .int x1), (2, .int x2)] → W p l e ({ frames := 0, cells := 0, slots := 0, locals := 0 } : Room) s m args below meth c H locs 0 0 (MQ below (QC D κ ρ s.heap.size g0 q.2 (some (.int q.1))) args s 0 0 (AC ρ g0 s.heap.size)) (F0 m 7 ls []) := by
  have hx := C.1
  have hb := C.2.1
  have hts := C.2.2.2.2
  have hown := C.2.2.2.1
  have k_54 := hts (.fieldLink RX6 54 "PlanCabinet" "plans" "[LPlanCabinet$Plan;") (by decide +kernel)
  have k_58 := hts (.fieldLink RX6 58 "PlanCabinet" "planCount" "I") (by decide +kernel)
  have in_6 : ∀ w ∈ wsX60, w ∈ wsX6_clear := by decide +kernel
  intro n
  induction n with
  | zero =>
    intro σ x1 x2 g H locs ls h hw hg hl
    rw [fC_clear_L7] at h
    cases h
  | succ n ih =>
    intro σ x1 x2 g H locs ls h hw hg hl
    rw [fC_clear_L7] at h
    refine lv_iload_n hx hb dX6_clear_7 rfl (lv_at hl 2 rfl) ?_
    refine lv_bipush (v := (60 : Int32)) hx hb dX6_clear_8 (by decide) ?_
    refine lv_icmp_ge (tgt := 26) hx hb dX6_clear_10 (by decide) (fun c_10 => ?_) (fun c_10 => ?_)
    · have h := zz_pos c_10 h
      refine lv_aload_n hx hb dX6_clear_26 rfl (lv_at hl 0 rfl) ?_
      refine lv_iconst (v := (0 : Int32)) hx hb dX6_clear_27 (by decide) ?_
      refine cPf_606 C in_6 hw k_58 dX6_clear_28 (fun H locs hw => ?_)
      refine lv_iload_n hx hb dX6_clear_31 rfl (lv_at hl 1 rfl) ?_
      exact W.iret hx hb hr (fun t ht hW => QC.of (by rw [← some_of h]) (by rw [← some_of h]; exact hw) hg ht hW) hw.2.2.2.2 dX6_clear_32
    · have h := zz_neg c_10 h
      refine lv_aload_n hx hb dX6_clear_13 rfl (lv_at hl 0 rfl) ?_
      refine cG_605 C in_6 hw.1 k_54 dX6_clear_14 ?_
      refine lv_iload_n hx hb dX6_clear_17 rfl (lv_at hl 2 rfl) ?_
      refine lv_null hx hb dX6_clear_18 ?_
      obtain ⟨b_19, h⟩ := chk_of h
      refine cSP_605 C (r := none) (o := none) hw trivial b_19 dX6_clear_19 (fun g H locs eg1_19 eg2_19 eg3_19 hw => ?_)
      have hs := sub_eq eg3_19
      have hg := sub_tr hg hs
      refine lv_iinc (v := (x2 + 1)) (lv' := [(2, .int (x2 + 1)), (0, .ref (ρ 699)), (1, .int x1)]) hx hb dX6_clear_20 hl (k := 2) rfl rfl (by decide) rfl (fun ls hl => ?_)
      refine lv_goto (tgt := 7) hx hb dX6_clear_23 (by decide) ?_
      exact ih _ _ _ _ _ _ _ h hw hg (lv_sub hl [1, 2, 0] rfl)
set_option maxRecDepth 100000 in
set_option maxHeartbeats 4000000 in
theorem cC_clear {l : Launch} {D : va_G} {κ : Nat → ClassId} {ρ : Nat → Nat} {g0 : Gh} {sz : Nat} {N : Nat} {σ : CSt} {q : Int32 × CSt} (h : fC_clear N σ = some q) : Met l yX6_clear wsX6_clear ({ frames := 0, cells := 0, slots := 0, locals := 0 } : Room) (va_Pc [.ref (ρ 699)] (PC D κ ρ sz g0 σ)) (QC D κ ρ sz g0 q.2 (some (.int q.1))) 0 0 (AC ρ g0 sz) := by
  refine cMetM (Qc := fun z => QC D κ ρ z g0 q.2 (some (.int q.1))) (ret := (some .int)) (by decide) rfl rfl (Nat.le_of_ble_eq_true rfl) ?_
  intro p e s m below meth c ls C hr hlk hw hl
  obtain ⟨g, eg⟩ : ∃ x, x = g0 := ⟨_, rfl⟩
  have hw : WC D κ ρ (AC ρ g0 s.heap.size) s.heap g σ s s.heap [] := by rw [eg]; exact hw
  have hg : sub g0 g := by rw [eg]; exact sub_rf g0
  have hl : lv_has ls 3 [(0, .ref (ρ 699))] := hl
  unfold fC_clear at h
  have hx := C.1
  have hb := C.2.1
  have hts := C.2.2.2.2
  have hown := C.2.2.2.1
  have k_58 := hts (.fieldLink RX6 58 "PlanCabinet" "planCount" "I") (by decide +kernel)
  have in_6 : ∀ w ∈ wsX60, w ∈ wsX6_clear := by decide +kernel
  refine lv_aload_n hx hb dX6_clear_0 rfl (lv_at hl 0 rfl) ?_
  refine cG_606 C in_6 hw.1 k_58 dX6_clear_1 ?_
  refine lv_istore_n (lv' := [(1, .int (σ.1 606)), (0, .ref (ρ 699))]) hx hb dX6_clear_4 rfl hl (by decide) rfl (fun ls hl => ?_)
  refine lv_iconst (v := (0 : Int32)) hx hb dX6_clear_5 (by decide) ?_
  refine lv_istore_n (lv' := [(2, .int (0 : Int32)), (1, .int (σ.1 606)), (0, .ref (ρ 699))]) hx hb dX6_clear_6 rfl hl (by decide) rfl (fun ls hl => ?_)
  exact wC_clear_L7 C hr hlk  _ _ _ _ _ _ _ _ h hw hg (lv_sub hl [2, 1, 0] rfl)
def fC_measure (N : Nat) (σ : CSt) : Option (CSt) := (if (σ.1 607) = 0 then (fZ_measure N σ).bind fun r_11 => some (cI r_11 607 (1 : Int32)) else some σ)
set_option maxRecDepth 100000 in
set_option maxHeartbeats 4000000 in
theorem cC_measure {l : Launch} {D : va_G} {κ : Nat → ClassId} {ρ : Nat → Nat} {g0 : Gh} {sz : Nat} {N : Nat} {σ : CSt} {q : CSt} (h : fC_measure N σ = some q) : Met l yX6_measure wsX6_measure ({ frames := 4, cells := 0, slots := 0, locals := 91 } : Room) (va_Pc [.ref (ρ 699)] (PC D κ ρ sz g0 σ)) (QC D κ ρ sz g0 q none) 0 0 (AC ρ g0 sz) := by
  refine cMetM (Qc := fun z => QC D κ ρ z g0 q none) (ret := none) (by decide) rfl rfl (Nat.le_of_ble_eq_true rfl) ?_
  intro p e s m below meth c ls C hr hlk hw hl
  obtain ⟨g, eg⟩ : ∃ x, x = g0 := ⟨_, rfl⟩
  have hw : WC D κ ρ (AC ρ g0 s.heap.size) s.heap g σ s s.heap [] := by rw [eg]; exact hw
  have hg : sub g0 g := by rw [eg]; exact sub_rf g0
  have hl : lv_has ls 1 [(0, .ref (ρ 699))] := hl
  unfold fC_measure at h
  have hx := C.1
  have hb := C.2.1
  have hts := C.2.2.2.2
  have hown := C.2.2.2.1
  have k_23 := hts (.fieldLink RX6 23 "PlanCabinet" "prices" "LPlanCabinet$Prices;") (by decide +kernel)
  have k_228 := hts (.fieldLink RX6 228 "PlanCabinet" "measured" "Z") (by decide +kernel)
  have in_6 : ∀ w ∈ wsX60, w ∈ wsX6_measure := by decide +kernel
  refine lv_aload_n hx hb dX6_measure_0 rfl (lv_at hl 0 rfl) ?_
  refine cG_607 C in_6 hw.1 k_228 dX6_measure_1 ?_
  refine lv_if_ne (tgt := 19) hx hb dX6_measure_4 (by decide) (fun c_4 => ?_) (fun c_4 => ?_)
  · have h := zz_neg c_4 h
    exact W.vret hx hb hr (fun t ht hW => QC.of rfl (by rw [← some_of h]; exact hw) hg ht hW) hw.2.2.2.2 dX6_measure_19
  · have h := zz_pos c_4 h
    refine lv_aload_n hx hb dX6_measure_7 rfl (lv_at hl 0 rfl) ?_
    refine cG_601 C in_6 hw.1 k_23 dX6_measure_8 ?_
    obtain ⟨r_11, e_11, h⟩ := bnd_of h
    refine callC (va_runV (As := []) C (cZ_measure e_11) (cwV 0 hts gX6_measure_X2_measure rfl rfl rfl (by decide +kernel) ⟨by decide, by decide⟩) (preM (recv_299 hw.1) hw) rfl rfl hl.1 rfl (lv_room (Nat.le_of_ble_eq_true rfl)) dX6_measure_11 ⟨Nat.zero_le _, Nat.zero_le _⟩) hw (fun _ h => Or.inr h) (fun g H locs hs hw => ?_)
    have hg := sub_tr hg hs
    refine lv_aload_n hx hb dX6_measure_14 rfl (lv_at hl 0 rfl) ?_
    refine lv_iconst (v := (1 : Int32)) hx hb dX6_measure_15 (by decide) ?_
    refine cPf_607 C in_6 hw k_228 (by decide +kernel) (by decide +kernel) dX6_measure_16 (fun H locs hw => ?_)
    exact W.vret hx hb hr (fun t ht hW => QC.of rfl (by rw [← some_of h]; exact hw) hg ht hW) hw.2.2.2.2 dX6_measure_19
def fC_keep (N : Nat) (σ : CSt) (x1 : Option Pl) : Option (Int32 × CSt) := on x1 (some ((-4 : Int32), σ)) (fun x_1 => (if (σ.1 606) < (60 : Int32) then chk (σ.1 606) 60 (some ((((cI (cP σ 605 (σ.1 606).toNatClampNeg (some x_1)) 606 (((cP σ 605 (σ.1 606).toNatClampNeg (some x_1)).1 606) + (1 : Int32))).1 606) - (1 : Int32)), (cI (cP σ 605 (σ.1 606).toNatClampNeg (some x_1)) 606 (((cP σ 605 (σ.1 606).toNatClampNeg (some x_1)).1 606) + (1 : Int32))))) else some ((-4 : Int32), σ)))
set_option maxRecDepth 100000 in
set_option maxHeartbeats 4000000 in
theorem cC_keep {l : Launch} {D : va_G} {κ : Nat → ClassId} {ρ : Nat → Nat} {g0 : Gh} {sz : Nat} {N : Nat} {σ : CSt} {x1 : Option Pl} {zx1 : Option Nat} {q : Int32 × CSt} (h : fC_keep N σ x1 = some q) (hpx1 : pr g0.2.2.2 zx1 x1) : Met l yX6_keep wsX6_keep ({ frames := 0, cells := 0, slots := 0, locals := 0 } : Room) (va_Pc [.ref (ρ 699), va_rf zx1] (PC D κ ρ sz g0 σ)) (QC D κ ρ sz g0 q.2 (some (.int q.1))) 0 0 (AC ρ g0 sz) := by
  refine cMetM (Qc := fun z => QC D κ ρ z g0 q.2 (some (.int q.1))) (ret := (some .int)) (by decide) rfl rfl (by cases zx1 <;> exact Nat.le_of_ble_eq_true rfl) ?_
  intro p e s m below meth c ls C hr hlk hw hl
  obtain ⟨g, eg⟩ : ∃ x, x = g0 := ⟨_, rfl⟩
  have hw : WC D κ ρ (AC ρ g0 s.heap.size) s.heap g σ s s.heap [] := by rw [eg]; exact hw
  have hg : sub g0 g := by rw [eg]; exact sub_rf g0
  have hpx1 : pr g.2.2.2 zx1 x1 := by rw [eg]; exact hpx1
  have hl : lv_has ls 2 [(0, .ref (ρ 699)), (1, va_rf zx1)] := by cases zx1 <;> exact hl
  unfold fC_keep at h
  have hx := C.1
  have hb := C.2.1
  have hts := C.2.2.2.2
  have hown := C.2.2.2.1
  have k_54 := hts (.fieldLink RX6 54 "PlanCabinet" "plans" "[LPlanCabinet$Plan;") (by decide +kernel)
  have k_58 := hts (.fieldLink RX6 58 "PlanCabinet" "planCount" "I") (by decide +kernel)
  have in_6 : ∀ w ∈ wsX60, w ∈ wsX6_keep := by decide +kernel
  refine cAload_n hx hb dX6_keep_0 rfl (lv_at hl 1 rfl) ?_
  refine cNull (tgt := 13) hx hb hpx1 dX6_keep_1 (by decide) (fun ez_1 ex_1 => ?_) (fun z_1 x_1 ez_1 ex_1 hq_1 => ?_)
  · have h := on_none ex_1 h
    subst ez_1
    have hl : lv_has ls 2 [(0, .ref (ρ 699)), (1, .null)] := hl
    refine lv_bipush (v := (-4 : Int32)) hx hb dX6_keep_13 (by decide) ?_
    exact W.iret hx hb hr (fun t ht hW => QC.of (by rw [← some_of h]) (by rw [← some_of h]; exact hw) hg ht hW) hw.2.2.2.2 dX6_keep_15
  · have h := on_some ex_1 h
    subst ez_1
    have hl : lv_has ls 2 [(0, .ref (ρ 699)), (1, .ref z_1)] := hl
    refine lv_aload_n hx hb dX6_keep_4 rfl (lv_at hl 0 rfl) ?_
    refine cG_606 C in_6 hw.1 k_58 dX6_keep_5 ?_
    refine lv_bipush (v := (60 : Int32)) hx hb dX6_keep_8 (by decide) ?_
    refine lv_icmp_lt (tgt := 16) hx hb dX6_keep_10 (by decide) (fun c_10 => ?_) (fun c_10 => ?_)
    · have h := zz_pos c_10 h
      refine lv_aload_n hx hb dX6_keep_16 rfl (lv_at hl 0 rfl) ?_
      refine cG_605 C in_6 hw.1 k_54 dX6_keep_17 ?_
      refine lv_aload_n hx hb dX6_keep_20 rfl (lv_at hl 0 rfl) ?_
      refine cG_606 C in_6 hw.1 k_58 dX6_keep_21 ?_
      refine lv_aload_n hx hb dX6_keep_24 rfl (lv_at hl 1 rfl) ?_
      obtain ⟨b_25, h⟩ := chk_of h
      refine cSP_605 C (r := (some z_1)) (o := (some x_1)) hw (pr_in hq_1) b_25 dX6_keep_25 (fun g H locs eg1_25 eg2_25 eg3_25 hw => ?_)
      have hs := sub_eq eg3_25
      have hg := sub_tr hg hs
      have hq_1 := hs _ hq_1
      refine lv_aload_n hx hb dX6_keep_26 rfl (lv_at hl 0 rfl) ?_
      refine lv_dup hx hb dX6_keep_27 rfl ?_
      refine cG_606 C in_6 hw.1 k_58 dX6_keep_28 ?_
      refine lv_iconst (v := (1 : Int32)) hx hb dX6_keep_31 (by decide) ?_
      refine lv_iadd hx hb dX6_keep_32 ?_
      refine cPf_606 C in_6 hw k_58 dX6_keep_33 (fun H locs hw => ?_)
      refine lv_aload_n hx hb dX6_keep_36 rfl (lv_at hl 0 rfl) ?_
      refine cG_606 C in_6 hw.1 k_58 dX6_keep_37 ?_
      refine lv_iconst (v := (1 : Int32)) hx hb dX6_keep_40 (by decide) ?_
      refine lv_isub hx hb dX6_keep_41 ?_
      exact W.iret hx hb hr (fun t ht hW => QC.of (by rw [← some_of h]) (by rw [← some_of h]; exact hw) hg ht hW) hw.2.2.2.2 dX6_keep_42
    · have h := zz_neg c_10 h
      refine lv_bipush (v := (-4 : Int32)) hx hb dX6_keep_13 (by decide) ?_
      exact W.iret hx hb hr (fun t ht hW => QC.of (by rw [← some_of h]) (by rw [← some_of h]; exact hw) hg ht hW) hw.2.2.2.2 dX6_keep_15
def fC_read (N : Nat) (σ : CSt) (x1 : Int32) : Option (Int32 × CSt) := (fQ_isTable N σ x1).bind fun r_5 => (if r_5 = 0 then some ((-1 : Int32), σ) else (fQ_isWhole N σ).bind fun r_17 => (if r_17 = 0 then some ((-3 : Int32), σ) else (if (σ.1 606) < (60 : Int32) then (fC_measure N σ).bind fun r_39 => (fZ_reading N r_39 x1).bind fun r_48 => (fC_keep N r_48.2 r_48.1).bind fun r_51 => some (r_51.1, r_51.2) else some ((-4 : Int32), σ))))
set_option maxRecDepth 100000 in
set_option maxHeartbeats 4000000 in
theorem cC_read {l : Launch} {D : va_G} {κ : Nat → ClassId} {ρ : Nat → Nat} {g0 : Gh} {sz : Nat} {N : Nat} {σ : CSt} {x1 : Int32} {q : Int32 × CSt} (h : fC_read N σ x1 = some q) : Met l yX6_read wsX6_read ({ frames := 5, cells := 1, slots := 5, locals := 111 } : Room) (va_Pc [.ref (ρ 699), .int x1] (PC D κ ρ sz g0 σ)) (QC D κ ρ sz g0 q.2 (some (.int q.1))) 1 5 (AC ρ g0 sz) := by
  refine cMetM (Qc := fun z => QC D κ ρ z g0 q.2 (some (.int q.1))) (ret := (some .int)) (by decide) rfl rfl (Nat.le_of_ble_eq_true rfl) ?_
  intro p e s m below meth c ls C hr hlk hw hl
  obtain ⟨g, eg⟩ : ∃ x, x = g0 := ⟨_, rfl⟩
  have hw : WC D κ ρ (AC ρ g0 s.heap.size) s.heap g σ s s.heap [] := by rw [eg]; exact hw
  have hg : sub g0 g := by rw [eg]; exact sub_rf g0
  refine W.widen (k := 0) (n := 0) (Nat.le_refl _) (Nat.le_refl _) ?_
  obtain ⟨ce, ece⟩ : ∃ x : Nat, x = 0 := ⟨_, rfl⟩
  obtain ⟨sl, esl⟩ : ∃ x : Nat, x = 0 := ⟨_, rfl⟩
  refine W.widen (k := ce) (n := sl) (Nat.zero_le _) (Nat.zero_le _) ?_
  have hl : lv_has ls 2 [(0, .ref (ρ 699)), (1, .int x1)] := hl
  unfold fC_read at h
  have hx := C.1
  have hb := C.2.1
  have hts := C.2.2.2.2
  have hown := C.2.2.2.1
  have k_14 := hts (.fieldLink RX6 14 "PlanCabinet" "question" "LPlanCabinet$Question;") (by decide +kernel)
  have k_23 := hts (.fieldLink RX6 23 "PlanCabinet" "prices" "LPlanCabinet$Prices;") (by decide +kernel)
  have k_58 := hts (.fieldLink RX6 58 "PlanCabinet" "planCount" "I") (by decide +kernel)
  have in_6 : ∀ w ∈ wsX60, w ∈ wsX6_read := by decide +kernel
  refine lv_aload_n hx hb dX6_read_0 rfl (lv_at hl 0 rfl) ?_
  refine cG_600 C in_6 hw.1 k_14 dX6_read_1 ?_
  refine lv_iload_n hx hb dX6_read_4 rfl (lv_at hl 1 rfl) ?_
  obtain ⟨r_5, e_5, h⟩ := bnd_of h
  refine callP (W.runV (As := [.int x1]) C (cQ_isTable e_5) (cwV 1 hts gX6_read_X3_isTable rfl rfl rfl (by decide +kernel) ⟨by decide, by decide⟩) (preR (recv_399 hw.1) hw.1) rfl rfl hl.1 rfl (lv_room (Nat.le_of_ble_eq_true rfl)) dX6_read_5 ⟨by show _ ≤ 1; omega, by show _ ≤ 5; omega⟩) ?_
  refine lv_if_ne (tgt := 13) hx hb dX6_read_8 (by decide) (fun c_8 => ?_) (fun c_8 => ?_)
  · have h := zz_neg c_8 h
    refine lv_aload_n hx hb dX6_read_13 rfl (lv_at hl 0 rfl) ?_
    refine cG_600 C in_6 hw.1 k_14 dX6_read_14 ?_
    obtain ⟨r_17, e_17, h⟩ := bnd_of h
    refine callP (W.runV (As := []) C (cQ_isWhole e_17) (cwV 0 hts gX6_read_X3_isWhole rfl rfl rfl (by decide +kernel) ⟨by decide, by decide⟩) (preR (recv_399 hw.1) hw.1) rfl rfl hl.1 rfl (lv_room (Nat.le_of_ble_eq_true rfl)) dX6_read_17 ⟨by show _ ≤ 1; omega, by show _ ≤ 5; omega⟩) ?_
    refine lv_if_ne (tgt := 26) hx hb dX6_read_20 (by decide) (fun c_20 => ?_) (fun c_20 => ?_)
    · have h := zz_neg c_20 h
      refine lv_aload_n hx hb dX6_read_26 rfl (lv_at hl 0 rfl) ?_
      refine cG_606 C in_6 hw.1 k_58 dX6_read_27 ?_
      refine lv_bipush (v := (60 : Int32)) hx hb dX6_read_30 (by decide) ?_
      refine lv_icmp_lt (tgt := 38) hx hb dX6_read_32 (by decide) (fun c_32 => ?_) (fun c_32 => ?_)
      · have h := zz_pos c_32 h
        refine lv_aload_n hx hb dX6_read_38 rfl (lv_at hl 0 rfl) ?_
        obtain ⟨r_39, e_39, h⟩ := bnd_of h
        refine callC (va_runV (As := []) C (cC_measure e_39) (cwV 0 hts gX6_read_X6_measure rfl rfl rfl (by decide +kernel) ⟨by decide, by decide⟩) (preM (recv_699 hw.1) hw) rfl rfl hl.1 rfl (lv_room (Nat.le_of_ble_eq_true rfl)) dX6_read_39 ⟨by show _ ≤ 1; omega, by show _ ≤ 5; omega⟩) hw (fun _ h => Or.inr h) (fun g H locs hs hw => ?_)
        have hg := sub_tr hg hs
        refine lv_aload_n hx hb dX6_read_42 rfl (lv_at hl 0 rfl) ?_
        refine lv_aload_n hx hb dX6_read_43 rfl (lv_at hl 0 rfl) ?_
        refine cG_601 C in_6 hw.1 k_23 dX6_read_44 ?_
        refine lv_iload_n hx hb dX6_read_47 rfl (lv_at hl 1 rfl) ?_
        obtain ⟨r_48, e_48, h⟩ := bnd_of h
        refine callCq (va_runV (As := [.int x1]) C (cZ_reading e_48) (cwV 1 hts gX6_read_X2_reading rfl rfl rfl (by decide +kernel) ⟨by decide, by decide⟩) (preM (recv_299 hw.1) hw) rfl rfl hl.1 rfl (lv_room (Nat.le_of_ble_eq_true rfl)) dX6_read_48 ⟨by show _ ≤ 1; omega, by show _ ≤ 5; omega⟩) hw (fun _ h => Or.inr h) (fun g z_48 H locs hs hp_48 hw => ?_)
        have hg := sub_tr hg hs
        obtain ⟨ce, ec_48⟩ : ∃ x, x = ce + 1 := ⟨_, rfl⟩
        obtain ⟨sl, es_48⟩ : ∃ x, x = sl + 5 := ⟨_, rfl⟩
        rw [← ec_48, ← es_48]
        obtain ⟨r_51, e_51, h⟩ := bnd_of h
        refine callC (va_runV (As := [va_rf z_48]) C (cC_keep e_51 hp_48) (cwV 1 hts gX6_read_X6_keep rfl rfl rfl (by decide +kernel) ⟨by decide, by decide⟩) (preM (recv_699 hw.1) hw) rfl rfl hl.1 rfl (lv_room (Nat.le_of_ble_eq_true rfl)) dX6_read_51 ⟨by show _ ≤ 1; omega, by show _ ≤ 5; omega⟩) hw (fun _ h => Or.inr h) (fun g H locs hs hw => ?_)
        have hg := sub_tr hg hs
        refine W.widen (k := 1) (n := 5) (by omega) (by omega) ?_
        exact W.iret hx hb hr (fun t ht hW => QC.of (by rw [← some_of h]) (by rw [← some_of h]; exact hw) hg ht hW) hw.2.2.2.2 dX6_read_54
      · have h := zz_neg c_32 h
        refine lv_bipush (v := (-4 : Int32)) hx hb dX6_read_35 (by decide) ?_
        refine W.widen (k := 1) (n := 5) (by omega) (by omega) ?_
        exact W.iret hx hb hr (fun t ht hW => QC.of (by rw [← some_of h]) (by rw [← some_of h]; exact hw) hg ht hW) hw.2.2.2.2 dX6_read_37
    · have h := zz_pos c_20 h
      refine lv_bipush (v := (-3 : Int32)) hx hb dX6_read_23 (by decide) ?_
      refine W.widen (k := 1) (n := 5) (by omega) (by omega) ?_
      exact W.iret hx hb hr (fun t ht hW => QC.of (by rw [← some_of h]) (by rw [← some_of h]; exact hw) hg ht hW) hw.2.2.2.2 dX6_read_25
  · have h := zz_pos c_8 h
    refine lv_iconst (v := (-1 : Int32)) hx hb dX6_read_11 (by decide) ?_
    refine W.widen (k := 1) (n := 5) (by omega) (by omega) ?_
    exact W.iret hx hb hr (fun t ht hW => QC.of (by rw [← some_of h]) (by rw [← some_of h]; exact hw) hg ht hW) hw.2.2.2.2 dX6_read_12
def fC_planAt (N : Nat) (σ : CSt) (x1 : Int32) : Option (Option Pl) := (if x1 < 0 then some none else (if (σ.1 606) ≤ x1 then some none else (if x1 < (60 : Int32) then chk x1 60 (some (σ.2.2.2.2.1 605 x1.toNatClampNeg)) else some none)))
set_option maxRecDepth 100000 in
set_option maxHeartbeats 4000000 in
theorem cC_planAt {l : Launch} {D : va_G} {κ : Nat → ClassId} {ρ : Nat → Nat} {g : Gh} {N : Nat} {σ : CSt} {x1 : Int32} {r : Option Pl} (h : fC_planAt N σ x1 = some r) : Met l yX6_planAt wsX6_planAt ({ frames := 0, cells := 0, slots := 0, locals := 0 } : Room) (va_Pc [.ref (ρ 699), .int x1] (PRC D κ ρ g σ)) (PUq (fun z => pr g.2.2.2 z r)) 0 0 (fun _ => False) := by
  refine cMetR (ret := (some (.object "PlanCabinet$Plan"))) (by decide) rfl rfl (Nat.le_of_ble_eq_true rfl) ?_
  intro p e s m below meth c ls C hr hlk hw hl
  have hl : lv_has ls 2 [(0, .ref (ρ 699)), (1, .int x1)] := hl
  unfold fC_planAt at h
  have hx := C.1
  have hb := C.2.1
  have hts := C.2.2.2.2
  have hown := C.2.2.2.1
  have k_54 := hts (.fieldLink RX6 54 "PlanCabinet" "plans" "[LPlanCabinet$Plan;") (by decide +kernel)
  have k_58 := hts (.fieldLink RX6 58 "PlanCabinet" "planCount" "I") (by decide +kernel)
  have in_6 : ∀ w ∈ wsX60, w ∈ wsX6_planAt := by decide +kernel
  refine lv_iload_n hx hb dX6_planAt_0 rfl (lv_at hl 1 rfl) ?_
  refine lv_if_lt (tgt := 18) hx hb dX6_planAt_1 (by decide) (fun c_1 => ?_) (fun c_1 => ?_)
  · have h := zz_pos c_1 h
    refine lv_null hx hb dX6_planAt_18 ?_
    refine lv_goto (tgt := 28) hx hb dX6_planAt_19 (by decide) ?_
    exact W.aret (v := va_rf none) hx hb hr (Or.inl ⟨_, rfl⟩) (va_rf_or _) (fun t ht hW => ⟨none, rfl, by rw [← some_of h]; exact trivial, ht⟩) (fun _ h => by cases h) dX6_planAt_28
  · have h := zz_neg c_1 h
    refine lv_iload_n hx hb dX6_planAt_4 rfl (lv_at hl 1 rfl) ?_
    refine lv_aload_n hx hb dX6_planAt_5 rfl (lv_at hl 0 rfl) ?_
    refine cG_606 C in_6 hw k_58 dX6_planAt_6 ?_
    refine lv_icmp_ge (tgt := 18) hx hb dX6_planAt_9 (by decide) (fun c_9 => ?_) (fun c_9 => ?_)
    · have h := zz_pos c_9 h
      refine lv_null hx hb dX6_planAt_18 ?_
      refine lv_goto (tgt := 28) hx hb dX6_planAt_19 (by decide) ?_
      exact W.aret (v := va_rf none) hx hb hr (Or.inl ⟨_, rfl⟩) (va_rf_or _) (fun t ht hW => ⟨none, rfl, by rw [← some_of h]; exact trivial, ht⟩) (fun _ h => by cases h) dX6_planAt_28
    · have h := zz_neg c_9 h
      refine lv_iload_n hx hb dX6_planAt_12 rfl (lv_at hl 1 rfl) ?_
      refine lv_bipush (v := (60 : Int32)) hx hb dX6_planAt_13 (by decide) ?_
      refine lv_icmp_lt (tgt := 22) hx hb dX6_planAt_15 (by decide) (fun c_15 => ?_) (fun c_15 => ?_)
      · have h := zz_pos c_15 h
        refine lv_aload_n hx hb dX6_planAt_22 rfl (lv_at hl 0 rfl) ?_
        refine cG_605 C in_6 hw k_54 dX6_planAt_23 ?_
        refine lv_iload_n hx hb dX6_planAt_26 rfl (lv_at hl 1 rfl) ?_
        obtain ⟨b_27, h⟩ := chk_of h
        refine cLP_605 C hw b_27 dX6_planAt_27 (fun z_27 hp_27 => ?_)
        exact W.aret (v := va_rf z_27) hx hb hr (Or.inl ⟨_, rfl⟩) (va_rf_or _) (fun t ht hW => ⟨z_27, rfl, by rw [← some_of h]; exact hp_27, ht⟩) (fun _ h => by cases h) dX6_planAt_28
      · have h := zz_neg c_15 h
        refine lv_null hx hb dX6_planAt_18 ?_
        refine lv_goto (tgt := 28) hx hb dX6_planAt_19 (by decide) ?_
        exact W.aret (v := va_rf none) hx hb hr (Or.inl ⟨_, rfl⟩) (va_rf_or _) (fun t ht hW => ⟨none, rfl, by rw [← some_of h]; exact trivial, ht⟩) (fun _ h => by cases h) dX6_planAt_28
def fC_join (N : Nat) (σ : CSt) (x1 : Int32) (x2 : Int32) (x3 : Int32) : Option (Int32 × CSt) := (fC_planAt N σ x2).bind fun r_2 => (fC_planAt N σ x3).bind fun r_9 => on r_2 (some ((-1 : Int32), σ)) (fun x_16 => on r_9 (some ((-1 : Int32), σ)) (fun x_21 => (if x1 < 0 then some ((-2 : Int32), σ) else (if x1 < (3 : Int32) then (if (x_16.1 &&& x_21.1) = 0 then (fQ_leastBetween N σ x_16.1 x_21.1).bind fun r_66 => (if r_66 = (-1 : Int32) then some ((-3 : Int32), σ) else (if (σ.1 606) < (60 : Int32) then (fZ_joining N σ x1 (some x_16) (some x_21)).bind fun r_98 => (fC_keep N r_98.2 r_98.1).bind fun r_101 => some (r_101.1, r_101.2) else some ((-4 : Int32), σ))) else some ((-3 : Int32), σ)) else some ((-2 : Int32), σ)))))
set_option maxRecDepth 100000 in
set_option maxHeartbeats 4000000 in
theorem cC_join {l : Launch} {D : va_G} {κ : Nat → ClassId} {ρ : Nat → Nat} {g0 : Gh} {sz : Nat} {N : Nat} {σ : CSt} {x1 : Int32} {x2 : Int32} {x3 : Int32} {q : Int32 × CSt} (h : fC_join N σ x1 x2 x3 = some q) : Met l yX6_join wsX6_join ({ frames := 3, cells := 1, slots := 5, locals := 80 } : Room) (va_Pc [.ref (ρ 699), .int x1, .int x2, .int x3] (PC D κ ρ sz g0 σ)) (QC D κ ρ sz g0 q.2 (some (.int q.1))) 1 5 (AC ρ g0 sz) := by
  refine cMetM (Qc := fun z => QC D κ ρ z g0 q.2 (some (.int q.1))) (ret := (some .int)) (by decide) rfl rfl (Nat.le_of_ble_eq_true rfl) ?_
  intro p e s m below meth c ls C hr hlk hw hl
  obtain ⟨g, eg⟩ : ∃ x, x = g0 := ⟨_, rfl⟩
  have hw : WC D κ ρ (AC ρ g0 s.heap.size) s.heap g σ s s.heap [] := by rw [eg]; exact hw
  have hg : sub g0 g := by rw [eg]; exact sub_rf g0
  refine W.widen (k := 0) (n := 0) (Nat.le_refl _) (Nat.le_refl _) ?_
  obtain ⟨ce, ece⟩ : ∃ x : Nat, x = 0 := ⟨_, rfl⟩
  obtain ⟨sl, esl⟩ : ∃ x : Nat, x = 0 := ⟨_, rfl⟩
  refine W.widen (k := ce) (n := sl) (Nat.zero_le _) (Nat.zero_le _) ?_
  have hl : lv_has ls 6 [(0, .ref (ρ 699)), (1, .int x1), (2, .int x2), (3, .int x3)] := hl
  unfold fC_join at h
  have hx := C.1
  have hb := C.2.1
  have hts := C.2.2.2.2
  have hown := C.2.2.2.1
  have k_14 := hts (.fieldLink RX6 14 "PlanCabinet" "question" "LPlanCabinet$Question;") (by decide +kernel)
  have k_23 := hts (.fieldLink RX6 23 "PlanCabinet" "prices" "LPlanCabinet$Prices;") (by decide +kernel)
  have k_58 := hts (.fieldLink RX6 58 "PlanCabinet" "planCount" "I") (by decide +kernel)
  have k_122 := hts (.fieldLink RX6 122 "PlanCabinet$Plan" "set" "I") (by decide +kernel)
  have in_1 : ∀ w ∈ wsX10, w ∈ wsX6_join := by decide +kernel
  have in_6 : ∀ w ∈ wsX60, w ∈ wsX6_join := by decide +kernel
  refine lv_aload_n hx hb dX6_join_0 rfl (lv_at hl 0 rfl) ?_
  refine lv_iload_n hx hb dX6_join_1 rfl (lv_at hl 2 rfl) ?_
  obtain ⟨r_2, e_2, h⟩ := bnd_of h
  refine callPq (W.runV (As := [.int x2]) C (cC_planAt e_2) (cwV 1 hts gX6_join_X6_planAt rfl rfl rfl (by decide +kernel) ⟨by decide, by decide⟩) (preR (recv_699 hw.1) hw.1) rfl rfl hl.1 rfl (lv_room (Nat.le_of_ble_eq_true rfl)) dX6_join_2 ⟨by show _ ≤ 1; omega, by show _ ≤ 5; omega⟩) (fun z_2 hp_2 => ?_)
  refine cAstore (lv' := [(4, va_rf z_2), (0, .ref (ρ 699)), (1, .int x1), (2, .int x2), (3, .int x3)]) hx hb dX6_join_5 hl (by decide) rfl (fun ls hl => ?_)
  refine lv_aload_n hx hb dX6_join_7 rfl (lv_at hl 1 rfl) ?_
  refine lv_iload_n hx hb dX6_join_8 rfl (lv_at hl 4 rfl) ?_
  obtain ⟨r_9, e_9, h⟩ := bnd_of h
  refine callPq (W.runV (As := [.int x3]) C (cC_planAt e_9) (cwV 1 hts gX6_join_X6_planAt rfl rfl rfl (by decide +kernel) ⟨by decide, by decide⟩) (preR (recv_699 hw.1) hw.1) rfl rfl hl.1 rfl (lv_room (Nat.le_of_ble_eq_true rfl)) dX6_join_9 ⟨by show _ ≤ 1; omega, by show _ ≤ 5; omega⟩) (fun z_9 hp_9 => ?_)
  refine cAstore (lv' := [(5, va_rf z_9), (4, va_rf z_2), (0, .ref (ρ 699)), (1, .int x1), (2, .int x2), (3, .int x3)]) hx hb dX6_join_12 hl (by decide) (by cases z_2 <;> rfl) (fun ls hl => ?_)
  refine cAload hx hb dX6_join_14 (lv_at hl 1 rfl) ?_
  refine cNull (tgt := 24) hx hb hp_2 dX6_join_16 (by decide) (fun ez_16 ex_16 => ?_) (fun z_16 x_16 ez_16 ex_16 hq_16 => ?_)
  · have h := on_none ex_16 h
    subst ez_16
    have hl : lv_has ls 6 [(5, va_rf z_9), (4, .null), (0, .ref (ρ 699)), (1, .int x1), (2, .int x2), (3, .int x3)] := hl
    refine lv_iconst (v := (-1 : Int32)) hx hb dX6_join_24 (by decide) ?_
    refine W.widen (k := 1) (n := 5) (by omega) (by omega) ?_
    exact W.iret hx hb hr (fun t ht hW => QC.of (by rw [← some_of h]) (by rw [← some_of h]; exact hw) hg ht hW) hw.2.2.2.2 dX6_join_25
  · have h := on_some ex_16 h
    subst ez_16
    have hl : lv_has ls 6 [(5, va_rf z_9), (4, .ref z_16), (0, .ref (ρ 699)), (1, .int x1), (2, .int x2), (3, .int x3)] := hl
    refine cAload hx hb dX6_join_19 (lv_at hl 0 rfl) ?_
    refine cNonnull (tgt := 26) hx hb hp_9 dX6_join_21 (by decide) (fun ez_21 ex_21 => ?_) (fun z_21 x_21 ez_21 ex_21 hq_21 => ?_)
    · have h := on_none ex_21 h
      subst ez_21
      have hl : lv_has ls 6 [(5, .null), (4, .ref z_16), (0, .ref (ρ 699)), (1, .int x1), (2, .int x2), (3, .int x3)] := hl
      refine lv_iconst (v := (-1 : Int32)) hx hb dX6_join_24 (by decide) ?_
      refine W.widen (k := 1) (n := 5) (by omega) (by omega) ?_
      exact W.iret hx hb hr (fun t ht hW => QC.of (by rw [← some_of h]) (by rw [← some_of h]; exact hw) hg ht hW) hw.2.2.2.2 dX6_join_25
    · have h := on_some ex_21 h
      subst ez_21
      have hl : lv_has ls 6 [(5, .ref z_21), (4, .ref z_16), (0, .ref (ρ 699)), (1, .int x1), (2, .int x2), (3, .int x3)] := hl
      refine lv_iload_n hx hb dX6_join_26 rfl (lv_at hl 3 rfl) ?_
      refine lv_if_lt (tgt := 35) hx hb dX6_join_27 (by decide) (fun c_27 => ?_) (fun c_27 => ?_)
      · have h := zz_pos c_27 h
        refine lv_bipush (v := (-2 : Int32)) hx hb dX6_join_35 (by decide) ?_
        refine W.widen (k := 1) (n := 5) (by omega) (by omega) ?_
        exact W.iret hx hb hr (fun t ht hW => QC.of (by rw [← some_of h]) (by rw [← some_of h]; exact hw) hg ht hW) hw.2.2.2.2 dX6_join_37
      · have h := zz_neg c_27 h
        refine lv_iload_n hx hb dX6_join_30 rfl (lv_at hl 3 rfl) ?_
        refine lv_iconst (v := (3 : Int32)) hx hb dX6_join_31 (by decide) ?_
        refine lv_icmp_lt (tgt := 38) hx hb dX6_join_32 (by decide) (fun c_32 => ?_) (fun c_32 => ?_)
        · have h := zz_pos c_32 h
          refine lv_aload hx hb dX6_join_38 (lv_at hl 1 rfl) ?_
          refine cGP_0 C in_1 hw.1 hq_16 k_122 dX6_join_40 ?_
          refine lv_aload hx hb dX6_join_43 (lv_at hl 0 rfl) ?_
          refine cGP_0 C in_1 hw.1 hq_21 k_122 dX6_join_45 ?_
          refine lv_iand hx hb dX6_join_48 ?_
          refine lv_if_ne (tgt := 73) hx hb dX6_join_49 (by decide) (fun c_49 => ?_) (fun c_49 => ?_)
          · have h := zz_neg c_49 h
            refine lv_bipush (v := (-3 : Int32)) hx hb dX6_join_73 (by decide) ?_
            refine W.widen (k := 1) (n := 5) (by omega) (by omega) ?_
            exact W.iret hx hb hr (fun t ht hW => QC.of (by rw [← some_of h]) (by rw [← some_of h]; exact hw) hg ht hW) hw.2.2.2.2 dX6_join_75
          · have h := zz_pos c_49 h
            refine lv_aload_n hx hb dX6_join_52 rfl (lv_at hl 2 rfl) ?_
            refine cG_600 C in_6 hw.1 k_14 dX6_join_53 ?_
            refine lv_aload hx hb dX6_join_56 (lv_at hl 1 rfl) ?_
            refine cGP_0 C in_1 hw.1 hq_16 k_122 dX6_join_58 ?_
            refine lv_aload hx hb dX6_join_61 (lv_at hl 0 rfl) ?_
            refine cGP_0 C in_1 hw.1 hq_21 k_122 dX6_join_63 ?_
            obtain ⟨r_66, e_66, h⟩ := bnd_of h
            refine callP (W.runV (As := [.int x_16.1, .int x_21.1]) C (cQ_leastBetween e_66) (cwV 2 hts gX6_join_X3_leastBetween rfl rfl rfl (by decide +kernel) ⟨by decide, by decide⟩) (preR (recv_399 hw.1) hw.1) rfl rfl hl.1 rfl (lv_room (Nat.le_of_ble_eq_true rfl)) dX6_join_66 ⟨by show _ ≤ 1; omega, by show _ ≤ 5; omega⟩) ?_
            refine lv_iconst (v := (-1 : Int32)) hx hb dX6_join_69 (by decide) ?_
            refine lv_icmp_ne (tgt := 76) hx hb dX6_join_70 (by decide) (fun c_70 => ?_) (fun c_70 => ?_)
            · have h := zz_neg c_70 h
              refine lv_aload_n hx hb dX6_join_76 rfl (lv_at hl 2 rfl) ?_
              refine cG_606 C in_6 hw.1 k_58 dX6_join_77 ?_
              refine lv_bipush (v := (60 : Int32)) hx hb dX6_join_80 (by decide) ?_
              refine lv_icmp_lt (tgt := 88) hx hb dX6_join_82 (by decide) (fun c_82 => ?_) (fun c_82 => ?_)
              · have h := zz_pos c_82 h
                refine lv_aload_n hx hb dX6_join_88 rfl (lv_at hl 2 rfl) ?_
                refine lv_aload_n hx hb dX6_join_89 rfl (lv_at hl 2 rfl) ?_
                refine cG_601 C in_6 hw.1 k_23 dX6_join_90 ?_
                refine lv_iload_n hx hb dX6_join_93 rfl (lv_at hl 3 rfl) ?_
                refine lv_aload hx hb dX6_join_94 (lv_at hl 1 rfl) ?_
                refine lv_aload hx hb dX6_join_96 (lv_at hl 0 rfl) ?_
                obtain ⟨r_98, e_98, h⟩ := bnd_of h
                refine callCq (va_runV (As := [.int x1, va_rf (some z_16), va_rf (some z_21)]) C (cZ_joining e_98 (pr_in hq_16) (pr_in hq_21)) (cwV 3 hts gX6_join_X2_joining rfl rfl rfl (by decide +kernel) ⟨by decide, by decide⟩) (preM (recv_299 hw.1) hw) rfl rfl hl.1 rfl (lv_room (Nat.le_of_ble_eq_true rfl)) dX6_join_98 ⟨by show _ ≤ 1; omega, by show _ ≤ 5; omega⟩) hw (fun _ h => Or.inr h) (fun g z_98 H locs hs hp_98 hw => ?_)
                have hg := sub_tr hg hs
                have hq_21 := hs _ hq_21
                have hq_16 := hs _ hq_16
                obtain ⟨ce, ec_98⟩ : ∃ x, x = ce + 1 := ⟨_, rfl⟩
                obtain ⟨sl, es_98⟩ : ∃ x, x = sl + 5 := ⟨_, rfl⟩
                rw [← ec_98, ← es_98]
                obtain ⟨r_101, e_101, h⟩ := bnd_of h
                refine callC (va_runV (As := [va_rf z_98]) C (cC_keep e_101 hp_98) (cwV 1 hts gX6_join_X6_keep rfl rfl rfl (by decide +kernel) ⟨by decide, by decide⟩) (preM (recv_699 hw.1) hw) rfl rfl hl.1 rfl (lv_room (Nat.le_of_ble_eq_true rfl)) dX6_join_101 ⟨by show _ ≤ 1; omega, by show _ ≤ 5; omega⟩) hw (fun _ h => Or.inr h) (fun g H locs hs hw => ?_)
                have hg := sub_tr hg hs
                have hq_21 := hs _ hq_21
                have hq_16 := hs _ hq_16
                refine W.widen (k := 1) (n := 5) (by omega) (by omega) ?_
                exact W.iret hx hb hr (fun t ht hW => QC.of (by rw [← some_of h]) (by rw [← some_of h]; exact hw) hg ht hW) hw.2.2.2.2 dX6_join_104
              · have h := zz_neg c_82 h
                refine lv_bipush (v := (-4 : Int32)) hx hb dX6_join_85 (by decide) ?_
                refine W.widen (k := 1) (n := 5) (by omega) (by omega) ?_
                exact W.iret hx hb hr (fun t ht hW => QC.of (by rw [← some_of h]) (by rw [← some_of h]; exact hw) hg ht hW) hw.2.2.2.2 dX6_join_87
            · have h := zz_pos c_70 h
              refine lv_bipush (v := (-3 : Int32)) hx hb dX6_join_73 (by decide) ?_
              refine W.widen (k := 1) (n := 5) (by omega) (by omega) ?_
              exact W.iret hx hb hr (fun t ht hW => QC.of (by rw [← some_of h]) (by rw [← some_of h]; exact hw) hg ht hW) hw.2.2.2.2 dX6_join_75
        · have h := zz_neg c_32 h
          refine lv_bipush (v := (-2 : Int32)) hx hb dX6_join_35 (by decide) ?_
          refine W.widen (k := 1) (n := 5) (by omega) (by omega) ?_
          exact W.iret hx hb hr (fun t ht hW => QC.of (by rw [← some_of h]) (by rw [← some_of h]; exact hw) hg ht hW) hw.2.2.2.2 dX6_join_37
def fC_code (N : Nat) (σ : CSt) (x1 : Int32) (x2 : Int32) : Option (Int32) := (fC_planAt N σ x1).bind fun r_2 => on r_2 (some (-1 : Int32)) (fun x_7 => (if x2 < 0 then some (-1 : Int32) else (fP_codeLength N σ x_7).bind fun r_16 => (if x2 < r_16 then (fP_codeNumber N σ x_7 x2).bind fun r_26 => some r_26 else some (-1 : Int32))))
set_option maxRecDepth 100000 in
set_option maxHeartbeats 4000000 in
theorem cC_code {l : Launch} {D : va_G} {κ : Nat → ClassId} {ρ : Nat → Nat} {g : Gh} {N : Nat} {σ : CSt} {x1 : Int32} {x2 : Int32} {r : Int32} (h : fC_code N σ x1 x2 = some r) : Met l yX6_code wsX6_code ({ frames := 3, cells := 0, slots := 0, locals := 61 } : Room) (va_Pc [.ref (ρ 699), .int x1, .int x2] (PRC D κ ρ g σ)) (PU (some (.int r))) 0 0 (fun _ => False) := by
  refine cMetR (ret := (some .int)) (by decide) rfl rfl (Nat.le_of_ble_eq_true rfl) ?_
  intro p e s m below meth c ls C hr hlk hw hl
  have hl : lv_has ls 4 [(0, .ref (ρ 699)), (1, .int x1), (2, .int x2)] := hl
  unfold fC_code at h
  have hx := C.1
  have hb := C.2.1
  have hts := C.2.2.2.2
  have hown := C.2.2.2.1
  refine lv_aload_n hx hb dX6_code_0 rfl (lv_at hl 0 rfl) ?_
  refine lv_iload_n hx hb dX6_code_1 rfl (lv_at hl 1 rfl) ?_
  obtain ⟨r_2, e_2, h⟩ := bnd_of h
  refine callPq (W.runV (As := [.int x1]) C (cC_planAt e_2) (cwV 1 hts gX6_code_X6_planAt rfl rfl rfl (by decide +kernel) ⟨by decide, by decide⟩) (preR (recv_699 hw) hw) rfl rfl hl.1 rfl (lv_room (Nat.le_of_ble_eq_true rfl)) dX6_code_2 ⟨Nat.zero_le _, Nat.zero_le _⟩) (fun z_2 hp_2 => ?_)
  refine cAstore_n (lv' := [(3, va_rf z_2), (0, .ref (ρ 699)), (1, .int x1), (2, .int x2)]) hx hb dX6_code_5 rfl hl (by decide) rfl (fun ls hl => ?_)
  refine cAload_n hx hb dX6_code_6 rfl (lv_at hl 0 rfl) ?_
  refine cNull (tgt := 22) hx hb hp_2 dX6_code_7 (by decide) (fun ez_7 ex_7 => ?_) (fun z_7 x_7 ez_7 ex_7 hq_7 => ?_)
  · have h := on_none ex_7 h
    subst ez_7
    have hl : lv_has ls 4 [(3, .null), (0, .ref (ρ 699)), (1, .int x1), (2, .int x2)] := hl
    refine lv_iconst (v := (-1 : Int32)) hx hb dX6_code_22 (by decide) ?_
    exact W.iret hx hb hr (fun t ht hW => ⟨by rw [some_of h], ht⟩) (fun _ h => by cases h) dX6_code_23
  · have h := on_some ex_7 h
    subst ez_7
    have hl : lv_has ls 4 [(3, .ref z_7), (0, .ref (ρ 699)), (1, .int x1), (2, .int x2)] := hl
    refine lv_iload_n hx hb dX6_code_10 rfl (lv_at hl 3 rfl) ?_
    refine lv_if_lt (tgt := 22) hx hb dX6_code_11 (by decide) (fun c_11 => ?_) (fun c_11 => ?_)
    · have h := zz_pos c_11 h
      refine lv_iconst (v := (-1 : Int32)) hx hb dX6_code_22 (by decide) ?_
      exact W.iret hx hb hr (fun t ht hW => ⟨by rw [some_of h], ht⟩) (fun _ h => by cases h) dX6_code_23
    · have h := zz_neg c_11 h
      refine lv_iload_n hx hb dX6_code_14 rfl (lv_at hl 3 rfl) ?_
      refine lv_aload_n hx hb dX6_code_15 rfl (lv_at hl 0 rfl) ?_
      obtain ⟨r_16, e_16, h⟩ := bnd_of h
      refine callP (W.runV (As := []) C (cP_codeLength e_16 hq_7) (cwV 0 hts gX6_code_X1_codeLength rfl rfl rfl (by decide +kernel) ⟨by decide, by decide⟩) (preR (recvP hw hq_7) hw) rfl rfl hl.1 rfl (lv_room (Nat.le_of_ble_eq_true rfl)) dX6_code_16 ⟨Nat.zero_le _, Nat.zero_le _⟩) ?_
      refine lv_icmp_lt (tgt := 24) hx hb dX6_code_19 (by decide) (fun c_19 => ?_) (fun c_19 => ?_)
      · have h := zz_pos c_19 h
        refine lv_aload_n hx hb dX6_code_24 rfl (lv_at hl 0 rfl) ?_
        refine lv_iload_n hx hb dX6_code_25 rfl (lv_at hl 3 rfl) ?_
        obtain ⟨r_26, e_26, h⟩ := bnd_of h
        refine callP (W.runV (As := [.int x2]) C (cP_codeNumber e_26 hq_7) (cwV 1 hts gX6_code_X1_codeNumber rfl rfl rfl (by decide +kernel) ⟨by decide, by decide⟩) (preR (recvP hw hq_7) hw) rfl rfl hl.1 rfl (lv_room (Nat.le_of_ble_eq_true rfl)) dX6_code_26 ⟨Nat.zero_le _, Nat.zero_le _⟩) ?_
        exact W.iret hx hb hr (fun t ht hW => ⟨by rw [some_of h], ht⟩) (fun _ h => by cases h) dX6_code_29
      · have h := zz_neg c_19 h
        refine lv_iconst (v := (-1 : Int32)) hx hb dX6_code_22 (by decide) ?_
        exact W.iret hx hb hr (fun t ht hW => ⟨by rw [some_of h], ht⟩) (fun _ h => by cases h) dX6_code_23
def fC_about (N : Nat) (σ : CSt) (x1 : Int32) (x2 : Int32) : Option (Int32) := (fC_planAt N σ x1).bind fun r_2 => on r_2 (some (-1 : Int32)) (fun x_7 => (if x2 = (0 : Int32) then some x_7.1 else (if x2 = (1 : Int32) then (fJ_bitCount_0f7a4 N x_7.1).bind fun r_53 => some (r_53 - (1 : Int32)) else (if x2 = (2 : Int32) then (if x_7.2.2.2.2 = 0 then some (0 : Int32) else some (1 : Int32)) else (if x2 = (3 : Int32) then (fQ_allTables N σ).bind fun r_80 => (if x_7.1 = r_80 then some (1 : Int32) else some (0 : Int32)) else some (-1 : Int32))))))
set_option maxRecDepth 100000 in
set_option maxHeartbeats 4000000 in
theorem cC_about {l : Launch} {D : va_G} {κ : Nat → ClassId} {ρ : Nat → Nat} {g : Gh} {N : Nat} {σ : CSt} {x1 : Int32} {x2 : Int32} {r : Int32} (h : fC_about N σ x1 x2 = some r) : Met l yX6_about wsX6_about ({ frames := 1, cells := 0, slots := 0, locals := 21 } : Room) (va_Pc [.ref (ρ 699), .int x1, .int x2] (PRC D κ ρ g σ)) (PU (some (.int r))) 0 0 (fun _ => False) := by
  refine cMetR (ret := (some .int)) (by decide) rfl rfl (Nat.le_of_ble_eq_true rfl) ?_
  intro p e s m below meth c ls C hr hlk hw hl
  have hl : lv_has ls 4 [(0, .ref (ρ 699)), (1, .int x1), (2, .int x2)] := hl
  unfold fC_about at h
  have hx := C.1
  have hb := C.2.1
  have hts := C.2.2.2.2
  have hown := C.2.2.2.1
  have k_14 := hts (.fieldLink RX6 14 "PlanCabinet" "question" "LPlanCabinet$Question;") (by decide +kernel)
  have k_122 := hts (.fieldLink RX6 122 "PlanCabinet$Plan" "set" "I") (by decide +kernel)
  have k_144 := hts (.fieldLink RX6 144 "PlanCabinet$Plan" "inOrder" "Z") (by decide +kernel)
  have in_1 : ∀ w ∈ wsX10, w ∈ wsX6_about := by decide +kernel
  have in_6 : ∀ w ∈ wsX60, w ∈ wsX6_about := by decide +kernel
  refine lv_aload_n hx hb dX6_about_0 rfl (lv_at hl 0 rfl) ?_
  refine lv_iload_n hx hb dX6_about_1 rfl (lv_at hl 1 rfl) ?_
  obtain ⟨r_2, e_2, h⟩ := bnd_of h
  refine callPq (W.runV (As := [.int x1]) C (cC_planAt e_2) (cwV 1 hts gX6_about_X6_planAt rfl rfl rfl (by decide +kernel) ⟨by decide, by decide⟩) (preR (recv_699 hw) hw) rfl rfl hl.1 rfl (lv_room (Nat.le_of_ble_eq_true rfl)) dX6_about_2 ⟨Nat.zero_le _, Nat.zero_le _⟩) (fun z_2 hp_2 => ?_)
  refine cAstore_n (lv' := [(3, va_rf z_2), (0, .ref (ρ 699)), (1, .int x1), (2, .int x2)]) hx hb dX6_about_5 rfl hl (by decide) rfl (fun ls hl => ?_)
  refine cAload_n hx hb dX6_about_6 rfl (lv_at hl 0 rfl) ?_
  refine cNonnull (tgt := 12) hx hb hp_2 dX6_about_7 (by decide) (fun ez_7 ex_7 => ?_) (fun z_7 x_7 ez_7 ex_7 hq_7 => ?_)
  · have h := on_none ex_7 h
    subst ez_7
    have hl : lv_has ls 4 [(3, .null), (0, .ref (ρ 699)), (1, .int x1), (2, .int x2)] := hl
    refine lv_iconst (v := (-1 : Int32)) hx hb dX6_about_10 (by decide) ?_
    exact W.iret hx hb hr (fun t ht hW => ⟨by rw [some_of h], ht⟩) (fun _ h => by cases h) dX6_about_11
  · have h := on_some ex_7 h
    subst ez_7
    have hl : lv_has ls 4 [(3, .ref z_7), (0, .ref (ρ 699)), (1, .int x1), (2, .int x2)] := hl
    refine lv_iload_n hx hb dX6_about_12 rfl (lv_at hl 3 rfl) ?_
    by_cases c_13_0 : x2 = (0 : Int32)
    · have h := zz_pos c_13_0 h
      refine lv_tableIn (tgt := 44) (off := 31) hx hb dX6_about_13 (by rw [c_13_0]; decide) (by rw [c_13_0]; decide) (by rw [c_13_0]; rfl) (by decide) ?_
      refine lv_aload_n hx hb dX6_about_44 rfl (lv_at hl 0 rfl) ?_
      refine cGP_0 C in_1 hw hq_7 k_122 dX6_about_45 ?_
      exact W.iret hx hb hr (fun t ht hW => ⟨by rw [some_of h], ht⟩) (fun _ h => by cases h) dX6_about_48
    have h := zz_neg c_13_0 h
    by_cases c_13_1 : x2 = (1 : Int32)
    · have h := zz_pos c_13_1 h
      refine lv_tableIn (tgt := 49) (off := 36) hx hb dX6_about_13 (by rw [c_13_1]; decide) (by rw [c_13_1]; decide) (by rw [c_13_1]; rfl) (by decide) ?_
      refine lv_aload_n hx hb dX6_about_49 rfl (lv_at hl 0 rfl) ?_
      refine cGP_0 C in_1 hw hq_7 k_122 dX6_about_50 ?_
      obtain ⟨r_53, e_53, h⟩ := bnd_of h
      refine callP (W.runS (As := [.int x_7.1]) C (cJ_bitCount_0f7a4 e_53) (va_cwS 1 hts gX6_about_J6_bitCount_0f7a4 rfl rfl rfl (by decide +kernel) ⟨by decide, by decide⟩) preT rfl rfl hl.1 rfl (lv_room (Nat.le_of_ble_eq_true rfl)) dX6_about_53 ⟨Nat.zero_le _, Nat.zero_le _⟩) ?_
      refine lv_iconst (v := (1 : Int32)) hx hb dX6_about_56 (by decide) ?_
      refine lv_isub hx hb dX6_about_57 ?_
      exact W.iret hx hb hr (fun t ht hW => ⟨by rw [some_of h], ht⟩) (fun _ h => by cases h) dX6_about_58
    have h := zz_neg c_13_1 h
    by_cases c_13_2 : x2 = (2 : Int32)
    · have h := zz_pos c_13_2 h
      refine lv_tableIn (tgt := 59) (off := 46) hx hb dX6_about_13 (by rw [c_13_2]; decide) (by rw [c_13_2]; decide) (by rw [c_13_2]; rfl) (by decide) ?_
      refine lv_aload_n hx hb dX6_about_59 rfl (lv_at hl 0 rfl) ?_
      refine cGP_4 C in_1 hw hq_7 k_144 dX6_about_60 ?_
      refine lv_if_eq (tgt := 70) hx hb dX6_about_63 (by decide) (fun c_63 => ?_) (fun c_63 => ?_)
      · have h := zz_pos c_63 h
        refine lv_iconst (v := (0 : Int32)) hx hb dX6_about_70 (by decide) ?_
        exact W.iret hx hb hr (fun t ht hW => ⟨by rw [some_of h], ht⟩) (fun _ h => by cases h) dX6_about_71
      · have h := zz_neg c_63 h
        refine lv_iconst (v := (1 : Int32)) hx hb dX6_about_66 (by decide) ?_
        refine lv_goto (tgt := 71) hx hb dX6_about_67 (by decide) ?_
        exact W.iret hx hb hr (fun t ht hW => ⟨by rw [some_of h], ht⟩) (fun _ h => by cases h) dX6_about_71
    have h := zz_neg c_13_2 h
    by_cases c_13_3 : x2 = (3 : Int32)
    · have h := zz_pos c_13_3 h
      refine lv_tableIn (tgt := 72) (off := 59) hx hb dX6_about_13 (by rw [c_13_3]; decide) (by rw [c_13_3]; decide) (by rw [c_13_3]; rfl) (by decide) ?_
      refine lv_aload_n hx hb dX6_about_72 rfl (lv_at hl 0 rfl) ?_
      refine cGP_0 C in_1 hw hq_7 k_122 dX6_about_73 ?_
      refine lv_aload_n hx hb dX6_about_76 rfl (lv_at hl 1 rfl) ?_
      refine cG_600 C in_6 hw k_14 dX6_about_77 ?_
      obtain ⟨r_80, e_80, h⟩ := bnd_of h
      refine callP (W.runV (As := []) C (cQ_allTables e_80) (cwV 0 hts gX6_about_X3_allTables rfl rfl rfl (by decide +kernel) ⟨by decide, by decide⟩) (preR (recv_399 hw) hw) rfl rfl hl.1 rfl (lv_room (Nat.le_of_ble_eq_true rfl)) dX6_about_80 ⟨Nat.zero_le _, Nat.zero_le _⟩) ?_
      refine lv_icmp_ne (tgt := 90) hx hb dX6_about_83 (by decide) (fun c_83 => ?_) (fun c_83 => ?_)
      · have h := zz_neg c_83 h
        refine lv_iconst (v := (0 : Int32)) hx hb dX6_about_90 (by decide) ?_
        exact W.iret hx hb hr (fun t ht hW => ⟨by rw [some_of h], ht⟩) (fun _ h => by cases h) dX6_about_91
      · have h := zz_pos c_83 h
        refine lv_iconst (v := (1 : Int32)) hx hb dX6_about_86 (by decide) ?_
        refine lv_goto (tgt := 91) hx hb dX6_about_87 (by decide) ?_
        exact W.iret hx hb hr (fun t ht hW => ⟨by rw [some_of h], ht⟩) (fun _ h => by cases h) dX6_about_91
    have h := zz_neg c_13_3 h
    refine lv_tableOut (tgt := 92) hx hb dX6_about_13 (by have e_0 := sw_ne (n := 0) 0 (by decide) c_13_0; have e_1 := sw_ne (n := 1) 1 (by decide) c_13_1; have e_2 := sw_ne (n := 2) 2 (by decide) c_13_2; have e_3 := sw_ne (n := 3) 3 (by decide) c_13_3; omega) (by decide) ?_
    refine lv_iconst (v := (-1 : Int32)) hx hb dX6_about_92 (by decide) ?_
    exact W.iret hx hb hr (fun t ht hW => ⟨by rw [some_of h], ht⟩) (fun _ h => by cases h) dX6_about_93
def fC_price (N : Nat) (σ : CSt) (x1 : Int32) (x2 : Int32) : Option (Int64) := (fC_planAt N σ x1).bind fun r_2 => on r_2 (some (-9223372036854775808 : Int64)) (fun x_7 => (if x2 = (0 : Int32) then some x_7.2.2.1 else (if x2 = (1 : Int32) then some x_7.2.2.2.1 else (if x2 = (2 : Int32) then (fZ_sizeA N σ x_7.1).bind fun r_62 => some r_62 else (if x2 = (3 : Int32) then (fZ_sizeB N σ x_7.1).bind fun r_74 => some r_74 else some (-9223372036854775808 : Int64))))))
set_option maxRecDepth 100000 in
set_option maxHeartbeats 4000000 in
theorem cC_price {l : Launch} {D : va_G} {κ : Nat → ClassId} {ρ : Nat → Nat} {g : Gh} {N : Nat} {σ : CSt} {x1 : Int32} {x2 : Int32} {r : Int64} (h : fC_price N σ x1 x2 = some r) : Met l yX6_price wsX6_price ({ frames := 1, cells := 0, slots := 0, locals := 21 } : Room) (va_Pc [.ref (ρ 699), .int x1, .int x2] (PRC D κ ρ g σ)) (PU (some (.long r))) 0 0 (fun _ => False) := by
  refine cMetR (ret := (some .long)) (by decide) rfl rfl (Nat.le_of_ble_eq_true rfl) ?_
  intro p e s m below meth c ls C hr hlk hw hl
  have hl : lv_has ls 4 [(0, .ref (ρ 699)), (1, .int x1), (2, .int x2)] := hl
  unfold fC_price at h
  have hx := C.1
  have hb := C.2.1
  have hts := C.2.2.2.2
  have hown := C.2.2.2.1
  have k_23 := hts (.fieldLink RX6 23 "PlanCabinet" "prices" "LPlanCabinet$Prices;") (by decide +kernel)
  have k_122 := hts (.fieldLink RX6 122 "PlanCabinet$Plan" "set" "I") (by decide +kernel)
  have k_151 := hts (.constantLong RX6 151 (-9223372036854775808)) (by decide +kernel)
  have k_153 := hts (.fieldLink RX6 153 "PlanCabinet$Plan" "a" "J") (by decide +kernel)
  have k_157 := hts (.fieldLink RX6 157 "PlanCabinet$Plan" "b" "J") (by decide +kernel)
  have in_1 : ∀ w ∈ wsX10, w ∈ wsX6_price := by decide +kernel
  have in_6 : ∀ w ∈ wsX60, w ∈ wsX6_price := by decide +kernel
  refine lv_aload_n hx hb dX6_price_0 rfl (lv_at hl 0 rfl) ?_
  refine lv_iload_n hx hb dX6_price_1 rfl (lv_at hl 1 rfl) ?_
  obtain ⟨r_2, e_2, h⟩ := bnd_of h
  refine callPq (W.runV (As := [.int x1]) C (cC_planAt e_2) (cwV 1 hts gX6_price_X6_planAt rfl rfl rfl (by decide +kernel) ⟨by decide, by decide⟩) (preR (recv_699 hw) hw) rfl rfl hl.1 rfl (lv_room (Nat.le_of_ble_eq_true rfl)) dX6_price_2 ⟨Nat.zero_le _, Nat.zero_le _⟩) (fun z_2 hp_2 => ?_)
  refine cAstore_n (lv' := [(3, va_rf z_2), (0, .ref (ρ 699)), (1, .int x1), (2, .int x2)]) hx hb dX6_price_5 rfl hl (by decide) rfl (fun ls hl => ?_)
  refine cAload_n hx hb dX6_price_6 rfl (lv_at hl 0 rfl) ?_
  refine cNonnull (tgt := 14) hx hb hp_2 dX6_price_7 (by decide) (fun ez_7 ex_7 => ?_) (fun z_7 x_7 ez_7 ex_7 hq_7 => ?_)
  · have h := on_none ex_7 h
    subst ez_7
    have hl : lv_has ls 4 [(3, .null), (0, .ref (ρ 699)), (1, .int x1), (2, .int x2)] := hl
    refine lv_ldc2 hx hb hown k_151 dX6_price_10 ?_
    exact W.lret hx hb hr (fun t ht hW => ⟨by rw [some_of h], ht⟩) (fun _ h => by cases h) dX6_price_13
  · have h := on_some ex_7 h
    subst ez_7
    have hl : lv_has ls 4 [(3, .ref z_7), (0, .ref (ρ 699)), (1, .int x1), (2, .int x2)] := hl
    refine lv_iload_n hx hb dX6_price_14 rfl (lv_at hl 3 rfl) ?_
    by_cases c_15_0 : x2 = (0 : Int32)
    · have h := zz_pos c_15_0 h
      refine lv_tableIn (tgt := 44) (off := 29) hx hb dX6_price_15 (by rw [c_15_0]; decide) (by rw [c_15_0]; decide) (by rw [c_15_0]; rfl) (by decide) ?_
      refine lv_aload_n hx hb dX6_price_44 rfl (lv_at hl 0 rfl) ?_
      refine cGP_2 C in_1 hw hq_7 k_153 dX6_price_45 ?_
      exact W.lret hx hb hr (fun t ht hW => ⟨by rw [some_of h], ht⟩) (fun _ h => by cases h) dX6_price_48
    have h := zz_neg c_15_0 h
    by_cases c_15_1 : x2 = (1 : Int32)
    · have h := zz_pos c_15_1 h
      refine lv_tableIn (tgt := 49) (off := 34) hx hb dX6_price_15 (by rw [c_15_1]; decide) (by rw [c_15_1]; decide) (by rw [c_15_1]; rfl) (by decide) ?_
      refine lv_aload_n hx hb dX6_price_49 rfl (lv_at hl 0 rfl) ?_
      refine cGP_3 C in_1 hw hq_7 k_157 dX6_price_50 ?_
      exact W.lret hx hb hr (fun t ht hW => ⟨by rw [some_of h], ht⟩) (fun _ h => by cases h) dX6_price_53
    have h := zz_neg c_15_1 h
    by_cases c_15_2 : x2 = (2 : Int32)
    · have h := zz_pos c_15_2 h
      refine lv_tableIn (tgt := 54) (off := 39) hx hb dX6_price_15 (by rw [c_15_2]; decide) (by rw [c_15_2]; decide) (by rw [c_15_2]; rfl) (by decide) ?_
      refine lv_aload_n hx hb dX6_price_54 rfl (lv_at hl 1 rfl) ?_
      refine cG_601 C in_6 hw k_23 dX6_price_55 ?_
      refine lv_aload_n hx hb dX6_price_58 rfl (lv_at hl 0 rfl) ?_
      refine cGP_0 C in_1 hw hq_7 k_122 dX6_price_59 ?_
      obtain ⟨r_62, e_62, h⟩ := bnd_of h
      refine callP (W.runV (As := [.int x_7.1]) C (cZ_sizeA e_62) (cwV 1 hts gX6_price_X2_sizeA rfl rfl rfl (by decide +kernel) ⟨by decide, by decide⟩) (preR (recv_299 hw) hw) rfl rfl hl.1 rfl (lv_room (Nat.le_of_ble_eq_true rfl)) dX6_price_62 ⟨Nat.zero_le _, Nat.zero_le _⟩) ?_
      exact W.lret hx hb hr (fun t ht hW => ⟨by rw [some_of h], ht⟩) (fun _ h => by cases h) dX6_price_65
    have h := zz_neg c_15_2 h
    by_cases c_15_3 : x2 = (3 : Int32)
    · have h := zz_pos c_15_3 h
      refine lv_tableIn (tgt := 66) (off := 51) hx hb dX6_price_15 (by rw [c_15_3]; decide) (by rw [c_15_3]; decide) (by rw [c_15_3]; rfl) (by decide) ?_
      refine lv_aload_n hx hb dX6_price_66 rfl (lv_at hl 1 rfl) ?_
      refine cG_601 C in_6 hw k_23 dX6_price_67 ?_
      refine lv_aload_n hx hb dX6_price_70 rfl (lv_at hl 0 rfl) ?_
      refine cGP_0 C in_1 hw hq_7 k_122 dX6_price_71 ?_
      obtain ⟨r_74, e_74, h⟩ := bnd_of h
      refine callP (W.runV (As := [.int x_7.1]) C (cZ_sizeB e_74) (cwV 1 hts gX6_price_X2_sizeB rfl rfl rfl (by decide +kernel) ⟨by decide, by decide⟩) (preR (recv_299 hw) hw) rfl rfl hl.1 rfl (lv_room (Nat.le_of_ble_eq_true rfl)) dX6_price_74 ⟨Nat.zero_le _, Nat.zero_le _⟩) ?_
      exact W.lret hx hb hr (fun t ht hW => ⟨by rw [some_of h], ht⟩) (fun _ h => by cases h) dX6_price_77
    have h := zz_neg c_15_3 h
    refine lv_tableOut (tgt := 78) hx hb dX6_price_15 (by have e_0 := sw_ne (n := 0) 0 (by decide) c_15_0; have e_1 := sw_ne (n := 1) 1 (by decide) c_15_1; have e_2 := sw_ne (n := 2) 2 (by decide) c_15_2; have e_3 := sw_ne (n := 3) 3 (by decide) c_15_3; omega) (by decide) ?_
    refine lv_ldc2 hx hb hown k_151 dX6_price_78 ?_
    exact W.lret hx hb hr (fun t ht hW => ⟨by rw [some_of h], ht⟩) (fun _ h => by cases h) dX6_price_81
def fC_best (N : Nat) (σ : CSt) (x1 : Int32) : Option (Int32 × CSt) := (fC_isPoint N x1).bind fun r_1 => (if r_1 = 0 then some ((-1 : Int32), σ) else (fQ_isWhole N σ).bind fun r_13 => (if r_13 = 0 then some ((-3 : Int32), σ) else (if (σ.1 606) < (60 : Int32) then (fC_measure N σ).bind fun r_35 => (fH_cheapest N r_35 x1.toInt64 (8 : Int64) (0 : Int32)).bind fun r_49 => (fC_keep N r_49.2 r_49.1).bind fun r_52 => some (r_52.1, r_52.2) else some ((-4 : Int32), σ))))
set_option maxRecDepth 100000 in
set_option maxHeartbeats 4000000 in
theorem cC_best {l : Launch} {D : va_G} {κ : Nat → ClassId} {ρ : Nat → Nat} {g0 : Gh} {sz : Nat} {N : Nat} {σ : CSt} {x1 : Int32} {q : Int32 × CSt} (h : fC_best N σ x1 = some q) : Met l yX6_best wsX6_best ({ frames := 5, cells := 1, slots := 5, locals := 130 } : Room) (va_Pc [.ref (ρ 699), .int x1] (PC D κ ρ sz g0 σ)) (QC D κ ρ sz g0 q.2 (some (.int q.1))) 1 5 (AC ρ g0 sz) := by
  refine cMetM (Qc := fun z => QC D κ ρ z g0 q.2 (some (.int q.1))) (ret := (some .int)) (by decide) rfl rfl (Nat.le_of_ble_eq_true rfl) ?_
  intro p e s m below meth c ls C hr hlk hw hl
  obtain ⟨g, eg⟩ : ∃ x, x = g0 := ⟨_, rfl⟩
  have hw : WC D κ ρ (AC ρ g0 s.heap.size) s.heap g σ s s.heap [] := by rw [eg]; exact hw
  have hg : sub g0 g := by rw [eg]; exact sub_rf g0
  refine W.widen (k := 0) (n := 0) (Nat.le_refl _) (Nat.le_refl _) ?_
  obtain ⟨ce, ece⟩ : ∃ x : Nat, x = 0 := ⟨_, rfl⟩
  obtain ⟨sl, esl⟩ : ∃ x : Nat, x = 0 := ⟨_, rfl⟩
  refine W.widen (k := ce) (n := sl) (Nat.zero_le _) (Nat.zero_le _) ?_
  have hl : lv_has ls 2 [(0, .ref (ρ 699)), (1, .int x1)] := hl
  unfold fC_best at h
  have hx := C.1
  have hb := C.2.1
  have hts := C.2.2.2.2
  have hown := C.2.2.2.1
  have k_14 := hts (.fieldLink RX6 14 "PlanCabinet" "question" "LPlanCabinet$Question;") (by decide +kernel)
  have k_32 := hts (.fieldLink RX6 32 "PlanCabinet" "chooser" "LPlanCabinet$Chooser;") (by decide +kernel)
  have k_58 := hts (.fieldLink RX6 58 "PlanCabinet" "planCount" "I") (by decide +kernel)
  have k_170 := hts (.constantLong RX6 170 (8)) (by decide +kernel)
  have in_6 : ∀ w ∈ wsX60, w ∈ wsX6_best := by decide +kernel
  refine lv_iload_n hx hb dX6_best_0 rfl (lv_at hl 1 rfl) ?_
  obtain ⟨r_1, e_1, h⟩ := bnd_of h
  refine callP (W.runS (As := [.int x1]) C (cC_isPoint e_1) (cwS 1 hts gX6_best_X6_isPoint rfl rfl rfl (by decide +kernel) ⟨by decide, by decide⟩) preT rfl rfl hl.1 rfl (lv_room (Nat.le_of_ble_eq_true rfl)) dX6_best_1 ⟨by show _ ≤ 1; omega, by show _ ≤ 5; omega⟩) ?_
  refine lv_if_ne (tgt := 9) hx hb dX6_best_4 (by decide) (fun c_4 => ?_) (fun c_4 => ?_)
  · have h := zz_neg c_4 h
    refine lv_aload_n hx hb dX6_best_9 rfl (lv_at hl 0 rfl) ?_
    refine cG_600 C in_6 hw.1 k_14 dX6_best_10 ?_
    obtain ⟨r_13, e_13, h⟩ := bnd_of h
    refine callP (W.runV (As := []) C (cQ_isWhole e_13) (cwV 0 hts gX6_best_X3_isWhole rfl rfl rfl (by decide +kernel) ⟨by decide, by decide⟩) (preR (recv_399 hw.1) hw.1) rfl rfl hl.1 rfl (lv_room (Nat.le_of_ble_eq_true rfl)) dX6_best_13 ⟨by show _ ≤ 1; omega, by show _ ≤ 5; omega⟩) ?_
    refine lv_if_ne (tgt := 22) hx hb dX6_best_16 (by decide) (fun c_16 => ?_) (fun c_16 => ?_)
    · have h := zz_neg c_16 h
      refine lv_aload_n hx hb dX6_best_22 rfl (lv_at hl 0 rfl) ?_
      refine cG_606 C in_6 hw.1 k_58 dX6_best_23 ?_
      refine lv_bipush (v := (60 : Int32)) hx hb dX6_best_26 (by decide) ?_
      refine lv_icmp_lt (tgt := 34) hx hb dX6_best_28 (by decide) (fun c_28 => ?_) (fun c_28 => ?_)
      · have h := zz_pos c_28 h
        refine lv_aload_n hx hb dX6_best_34 rfl (lv_at hl 0 rfl) ?_
        obtain ⟨r_35, e_35, h⟩ := bnd_of h
        refine callC (va_runV (As := []) C (cC_measure e_35) (cwV 0 hts gX6_best_X6_measure rfl rfl rfl (by decide +kernel) ⟨by decide, by decide⟩) (preM (recv_699 hw.1) hw) rfl rfl hl.1 rfl (lv_room (Nat.le_of_ble_eq_true rfl)) dX6_best_35 ⟨by show _ ≤ 1; omega, by show _ ≤ 5; omega⟩) hw (fun _ h => Or.inr h) (fun g H locs hs hw => ?_)
        have hg := sub_tr hg hs
        refine lv_aload_n hx hb dX6_best_38 rfl (lv_at hl 0 rfl) ?_
        refine lv_aload_n hx hb dX6_best_39 rfl (lv_at hl 0 rfl) ?_
        refine cG_602 C in_6 hw.1 k_32 dX6_best_40 ?_
        refine lv_iload_n hx hb dX6_best_43 rfl (lv_at hl 1 rfl) ?_
        refine lv_i2l hx hb dX6_best_44 rfl ?_
        refine lv_ldc2 hx hb hown k_170 dX6_best_45 ?_
        refine lv_iconst (v := (0 : Int32)) hx hb dX6_best_48 (by decide) ?_
        obtain ⟨r_49, e_49, h⟩ := bnd_of h
        refine callCq (va_runV (As := [.long x1.toInt64, .long (8 : Int64), .int (0 : Int32)]) C (cH_cheapest e_49) (cwV 3 hts gX6_best_X0_cheapest rfl rfl rfl (by decide +kernel) ⟨by decide, by decide⟩) (preM (recv_99 hw.1) hw) rfl rfl hl.1 rfl (lv_room (Nat.le_of_ble_eq_true rfl)) dX6_best_49 ⟨by show _ ≤ 1; omega, by show _ ≤ 5; omega⟩) hw (fun _ h => Or.inr h) (fun g z_49 H locs hs hp_49 hw => ?_)
        have hg := sub_tr hg hs
        obtain ⟨ce, ec_49⟩ : ∃ x, x = ce + 1 := ⟨_, rfl⟩
        obtain ⟨sl, es_49⟩ : ∃ x, x = sl + 5 := ⟨_, rfl⟩
        rw [← ec_49, ← es_49]
        obtain ⟨r_52, e_52, h⟩ := bnd_of h
        refine callC (va_runV (As := [va_rf z_49]) C (cC_keep e_52 hp_49) (cwV 1 hts gX6_best_X6_keep rfl rfl rfl (by decide +kernel) ⟨by decide, by decide⟩) (preM (recv_699 hw.1) hw) rfl rfl hl.1 rfl (lv_room (Nat.le_of_ble_eq_true rfl)) dX6_best_52 ⟨by show _ ≤ 1; omega, by show _ ≤ 5; omega⟩) hw (fun _ h => Or.inr h) (fun g H locs hs hw => ?_)
        have hg := sub_tr hg hs
        refine W.widen (k := 1) (n := 5) (by omega) (by omega) ?_
        exact W.iret hx hb hr (fun t ht hW => QC.of (by rw [← some_of h]) (by rw [← some_of h]; exact hw) hg ht hW) hw.2.2.2.2 dX6_best_55
      · have h := zz_neg c_28 h
        refine lv_bipush (v := (-4 : Int32)) hx hb dX6_best_31 (by decide) ?_
        refine W.widen (k := 1) (n := 5) (by omega) (by omega) ?_
        exact W.iret hx hb hr (fun t ht hW => QC.of (by rw [← some_of h]) (by rw [← some_of h]; exact hw) hg ht hW) hw.2.2.2.2 dX6_best_33
    · have h := zz_pos c_16 h
      refine lv_bipush (v := (-3 : Int32)) hx hb dX6_best_19 (by decide) ?_
      refine W.widen (k := 1) (n := 5) (by omega) (by omega) ?_
      exact W.iret hx hb hr (fun t ht hW => QC.of (by rw [← some_of h]) (by rw [← some_of h]; exact hw) hg ht hW) hw.2.2.2.2 dX6_best_21
  · have h := zz_pos c_4 h
    refine lv_iconst (v := (-1 : Int32)) hx hb dX6_best_7 (by decide) ?_
    refine W.widen (k := 1) (n := 5) (by omega) (by omega) ?_
    exact W.iret hx hb hr (fun t ht hW => QC.of (by rw [← some_of h]) (by rw [← some_of h]; exact hw) hg ht hW) hw.2.2.2.2 dX6_best_8
def fC_tellSpans (N : Nat) (σ : CSt) : Option (Int32 × CSt) := (fQ_isWhole N σ).bind fun r_4 => (if r_4 = 0 then some ((0 : Int32), σ) else (if (σ.1 608) = 0 then (fC_measure N σ).bind fun r_20 => (fS_find N r_20).bind fun r_27 => some ((1 : Int32), (cI r_27 608 (1 : Int32))) else some ((1 : Int32), σ)))
set_option maxRecDepth 100000 in
set_option maxHeartbeats 4000000 in
theorem cC_tellSpans {l : Launch} {D : va_G} {κ : Nat → ClassId} {ρ : Nat → Nat} {g0 : Gh} {sz : Nat} {N : Nat} {σ : CSt} {q : Int32 × CSt} (h : fC_tellSpans N σ = some q) : Met l yX6_tellSpans wsX6_tellSpans ({ frames := 6, cells := 243, slots := 1215, locals := 160 } : Room) (va_Pc [.ref (ρ 699)] (PC D κ ρ sz g0 σ)) (QC D κ ρ sz g0 q.2 (some (.int q.1))) 243 1215 (AC ρ g0 sz) := by
  refine cMetM (Qc := fun z => QC D κ ρ z g0 q.2 (some (.int q.1))) (ret := (some .boolean)) (by decide) rfl rfl (Nat.le_of_ble_eq_true rfl) ?_
  intro p e s m below meth c ls C hr hlk hw hl
  obtain ⟨g, eg⟩ : ∃ x, x = g0 := ⟨_, rfl⟩
  have hw : WC D κ ρ (AC ρ g0 s.heap.size) s.heap g σ s s.heap [] := by rw [eg]; exact hw
  have hg : sub g0 g := by rw [eg]; exact sub_rf g0
  refine W.widen (k := 0) (n := 0) (Nat.le_refl _) (Nat.le_refl _) ?_
  obtain ⟨ce, ece⟩ : ∃ x : Nat, x = 0 := ⟨_, rfl⟩
  obtain ⟨sl, esl⟩ : ∃ x : Nat, x = 0 := ⟨_, rfl⟩
  refine W.widen (k := ce) (n := sl) (Nat.zero_le _) (Nat.zero_le _) ?_
  have hl : lv_has ls 1 [(0, .ref (ρ 699))] := hl
  unfold fC_tellSpans at h
  have hx := C.1
  have hb := C.2.1
  have hts := C.2.2.2.2
  have hown := C.2.2.2.1
  have k_14 := hts (.fieldLink RX6 14 "PlanCabinet" "question" "LPlanCabinet$Question;") (by decide +kernel)
  have k_41 := hts (.fieldLink RX6 41 "PlanCabinet" "spans" "LPlanCabinet$Spans;") (by decide +kernel)
  have k_231 := hts (.fieldLink RX6 231 "PlanCabinet" "spansTold" "Z") (by decide +kernel)
  have in_6 : ∀ w ∈ wsX60, w ∈ wsX6_tellSpans := by decide +kernel
  refine lv_aload_n hx hb dX6_tellSpans_0 rfl (lv_at hl 0 rfl) ?_
  refine cG_600 C in_6 hw.1 k_14 dX6_tellSpans_1 ?_
  obtain ⟨r_4, e_4, h⟩ := bnd_of h
  refine callP (W.runV (As := []) C (cQ_isWhole e_4) (cwV 0 hts gX6_tellSpans_X3_isWhole rfl rfl rfl (by decide +kernel) ⟨by decide, by decide⟩) (preR (recv_399 hw.1) hw.1) rfl rfl hl.1 rfl (lv_room (Nat.le_of_ble_eq_true rfl)) dX6_tellSpans_4 ⟨by show _ ≤ 243; omega, by show _ ≤ 1215; omega⟩) ?_
  refine lv_if_ne (tgt := 12) hx hb dX6_tellSpans_7 (by decide) (fun c_7 => ?_) (fun c_7 => ?_)
  · have h := zz_neg c_7 h
    refine lv_aload_n hx hb dX6_tellSpans_12 rfl (lv_at hl 0 rfl) ?_
    refine cG_608 C in_6 hw.1 k_231 dX6_tellSpans_13 ?_
    refine lv_if_ne (tgt := 35) hx hb dX6_tellSpans_16 (by decide) (fun c_16 => ?_) (fun c_16 => ?_)
    · have h := zz_neg c_16 h
      refine lv_iconst (v := (1 : Int32)) hx hb dX6_tellSpans_35 (by decide) ?_
      refine W.widen (k := 243) (n := 1215) (by omega) (by omega) ?_
      exact W.zret (ty := .boolean) hx hb hr (by decide +kernel) (fun t ht hW => QC.of (by rw [← some_of h]) (by rw [← some_of h]; exact hw) hg ht hW) hw.2.2.2.2 dX6_tellSpans_36
    · have h := zz_pos c_16 h
      refine lv_aload_n hx hb dX6_tellSpans_19 rfl (lv_at hl 0 rfl) ?_
      obtain ⟨r_20, e_20, h⟩ := bnd_of h
      refine callC (va_runV (As := []) C (cC_measure e_20) (cwV 0 hts gX6_tellSpans_X6_measure rfl rfl rfl (by decide +kernel) ⟨by decide, by decide⟩) (preM (recv_699 hw.1) hw) rfl rfl hl.1 rfl (lv_room (Nat.le_of_ble_eq_true rfl)) dX6_tellSpans_20 ⟨by show _ ≤ 243; omega, by show _ ≤ 1215; omega⟩) hw (fun _ h => Or.inr h) (fun g H locs hs hw => ?_)
      have hg := sub_tr hg hs
      refine lv_aload_n hx hb dX6_tellSpans_23 rfl (lv_at hl 0 rfl) ?_
      refine cG_603 C in_6 hw.1 k_41 dX6_tellSpans_24 ?_
      obtain ⟨r_27, e_27, h⟩ := bnd_of h
      refine callC (va_runV (As := []) C (cS_find e_27) (cwV 0 hts gX6_tellSpans_X5_find rfl rfl rfl (by decide +kernel) ⟨by decide, by decide⟩) (preM (recv_599 hw.1) hw) rfl rfl hl.1 rfl (lv_room (Nat.le_of_ble_eq_true rfl)) dX6_tellSpans_27 ⟨by show _ ≤ 243; omega, by show _ ≤ 1215; omega⟩) hw (fun _ h => Or.inr h) (fun g H locs hs hw => ?_)
      have hg := sub_tr hg hs
      obtain ⟨ce, ec_27⟩ : ∃ x, x = ce + 243 := ⟨_, rfl⟩
      obtain ⟨sl, es_27⟩ : ∃ x, x = sl + 1215 := ⟨_, rfl⟩
      rw [← ec_27, ← es_27]
      refine lv_aload_n hx hb dX6_tellSpans_30 rfl (lv_at hl 0 rfl) ?_
      refine lv_iconst (v := (1 : Int32)) hx hb dX6_tellSpans_31 (by decide) ?_
      refine cPf_608 C in_6 hw k_231 (by decide +kernel) (by decide +kernel) dX6_tellSpans_32 (fun H locs hw => ?_)
      refine lv_iconst (v := (1 : Int32)) hx hb dX6_tellSpans_35 (by decide) ?_
      refine W.widen (k := 243) (n := 1215) (by omega) (by omega) ?_
      exact W.zret (ty := .boolean) hx hb hr (by decide +kernel) (fun t ht hW => QC.of (by rw [← some_of h]) (by rw [← some_of h]; exact hw) hg ht hW) hw.2.2.2.2 dX6_tellSpans_36
  · have h := zz_pos c_7 h
    refine lv_iconst (v := (0 : Int32)) hx hb dX6_tellSpans_10 (by decide) ?_
    refine W.widen (k := 243) (n := 1215) (by omega) (by omega) ?_
    exact W.zret (ty := .boolean) hx hb hr (by decide +kernel) (fun t ht hW => QC.of (by rw [← some_of h]) (by rw [← some_of h]; exact hw) hg ht hW) hw.2.2.2.2 dX6_tellSpans_11
def fC_spans (N : Nat) (σ : CSt) : Option (Int32 × CSt) := (fC_tellSpans N σ).bind fun r_1 => (if r_1.1 = 0 then some ((-3 : Int32), r_1.2) else some ((r_1.2.1 500), r_1.2))
set_option maxRecDepth 100000 in
set_option maxHeartbeats 4000000 in
theorem cC_spans {l : Launch} {D : va_G} {κ : Nat → ClassId} {ρ : Nat → Nat} {g0 : Gh} {sz : Nat} {N : Nat} {σ : CSt} {q : Int32 × CSt} (h : fC_spans N σ = some q) : Met l yX6_spans wsX6_spans ({ frames := 7, cells := 243, slots := 1215, locals := 180 } : Room) (va_Pc [.ref (ρ 699)] (PC D κ ρ sz g0 σ)) (QC D κ ρ sz g0 q.2 (some (.int q.1))) 243 1215 (AC ρ g0 sz) := by
  refine cMetM (Qc := fun z => QC D κ ρ z g0 q.2 (some (.int q.1))) (ret := (some .int)) (by decide) rfl rfl (Nat.le_of_ble_eq_true rfl) ?_
  intro p e s m below meth c ls C hr hlk hw hl
  obtain ⟨g, eg⟩ : ∃ x, x = g0 := ⟨_, rfl⟩
  have hw : WC D κ ρ (AC ρ g0 s.heap.size) s.heap g σ s s.heap [] := by rw [eg]; exact hw
  have hg : sub g0 g := by rw [eg]; exact sub_rf g0
  refine W.widen (k := 0) (n := 0) (Nat.le_refl _) (Nat.le_refl _) ?_
  obtain ⟨ce, ece⟩ : ∃ x : Nat, x = 0 := ⟨_, rfl⟩
  obtain ⟨sl, esl⟩ : ∃ x : Nat, x = 0 := ⟨_, rfl⟩
  refine W.widen (k := ce) (n := sl) (Nat.zero_le _) (Nat.zero_le _) ?_
  have hl : lv_has ls 1 [(0, .ref (ρ 699))] := hl
  unfold fC_spans at h
  have hx := C.1
  have hb := C.2.1
  have hts := C.2.2.2.2
  have hown := C.2.2.2.1
  have k_41 := hts (.fieldLink RX6 41 "PlanCabinet" "spans" "LPlanCabinet$Spans;") (by decide +kernel)
  have k_179 := hts (.fieldLink RX6 179 "PlanCabinet$Spans" "count" "I") (by decide +kernel)
  have in_5 : ∀ w ∈ wsX50, w ∈ wsX6_spans := by decide +kernel
  have in_6 : ∀ w ∈ wsX60, w ∈ wsX6_spans := by decide +kernel
  refine lv_aload_n hx hb dX6_spans_0 rfl (lv_at hl 0 rfl) ?_
  obtain ⟨r_1, e_1, h⟩ := bnd_of h
  refine callC (va_runV (As := []) C (cC_tellSpans e_1) (cwV 0 hts gX6_spans_X6_tellSpans rfl rfl rfl (by decide +kernel) ⟨by decide, by decide⟩) (preM (recv_699 hw.1) hw) rfl rfl hl.1 rfl (lv_room (Nat.le_of_ble_eq_true rfl)) dX6_spans_1 ⟨by show _ ≤ 243; omega, by show _ ≤ 1215; omega⟩) hw (fun _ h => Or.inr h) (fun g H locs hs hw => ?_)
  have hg := sub_tr hg hs
  obtain ⟨ce, ec_1⟩ : ∃ x, x = ce + 243 := ⟨_, rfl⟩
  obtain ⟨sl, es_1⟩ : ∃ x, x = sl + 1215 := ⟨_, rfl⟩
  rw [← ec_1, ← es_1]
  refine lv_if_eq (tgt := 17) hx hb dX6_spans_4 (by decide) (fun c_4 => ?_) (fun c_4 => ?_)
  · have h := zz_pos c_4 h
    refine lv_bipush (v := (-3 : Int32)) hx hb dX6_spans_17 (by decide) ?_
    refine W.widen (k := 243) (n := 1215) (by omega) (by omega) ?_
    exact W.iret hx hb hr (fun t ht hW => QC.of (by rw [← some_of h]) (by rw [← some_of h]; exact hw) hg ht hW) hw.2.2.2.2 dX6_spans_19
  · have h := zz_neg c_4 h
    refine lv_aload_n hx hb dX6_spans_7 rfl (lv_at hl 0 rfl) ?_
    refine cG_603 C in_6 hw.1 k_41 dX6_spans_8 ?_
    refine cG_500 C in_5 hw.1 k_179 dX6_spans_11 ?_
    refine lv_goto (tgt := 19) hx hb dX6_spans_14 (by decide) ?_
    refine W.widen (k := 243) (n := 1215) (by omega) (by omega) ?_
    exact W.iret hx hb hr (fun t ht hW => QC.of (by rw [← some_of h]) (by rw [← some_of h]; exact hw) hg ht hW) hw.2.2.2.2 dX6_spans_19
def fC_border (N : Nat) (σ : CSt) (x1 : Int32) (x2 : Int32) : Option (Int64 × CSt) := (fC_tellSpans N σ).bind fun r_1 => (if r_1.1 = 0 then some ((-9223372036854775808 : Int64), r_1.2) else (if x1 < 0 then some ((-9223372036854775808 : Int64), r_1.2) else (if x1 < (r_1.2.1 500) then (if x2 = (0 : Int32) then (fS_borderAbove N r_1.2 x1).bind fun r_61 => some (r_61, r_1.2) else (if x2 = (1 : Int32) then (fS_borderBelow N r_1.2 x1).bind fun r_70 => some (r_70, r_1.2) else (if x2 = (2 : Int32) then (fS_borderAbove N r_1.2 (x1 + (1 : Int32))).bind fun r_81 => some (r_81, r_1.2) else (if x2 = (3 : Int32) then (fS_borderBelow N r_1.2 (x1 + (1 : Int32))).bind fun r_92 => some (r_92, r_1.2) else some ((-9223372036854775808 : Int64), r_1.2))))) else some ((-9223372036854775808 : Int64), r_1.2))))
set_option maxRecDepth 100000 in
set_option maxHeartbeats 4000000 in
theorem cC_border {l : Launch} {D : va_G} {κ : Nat → ClassId} {ρ : Nat → Nat} {g0 : Gh} {sz : Nat} {N : Nat} {σ : CSt} {x1 : Int32} {x2 : Int32} {q : Int64 × CSt} (h : fC_border N σ x1 x2 = some q) : Met l yX6_border wsX6_border ({ frames := 7, cells := 243, slots := 1215, locals := 180 } : Room) (va_Pc [.ref (ρ 699), .int x1, .int x2] (PC D κ ρ sz g0 σ)) (QC D κ ρ sz g0 q.2 (some (.long q.1))) 243 1215 (AC ρ g0 sz) := by
  refine cMetM (Qc := fun z => QC D κ ρ z g0 q.2 (some (.long q.1))) (ret := (some .long)) (by decide) rfl rfl (Nat.le_of_ble_eq_true rfl) ?_
  intro p e s m below meth c ls C hr hlk hw hl
  obtain ⟨g, eg⟩ : ∃ x, x = g0 := ⟨_, rfl⟩
  have hw : WC D κ ρ (AC ρ g0 s.heap.size) s.heap g σ s s.heap [] := by rw [eg]; exact hw
  have hg : sub g0 g := by rw [eg]; exact sub_rf g0
  refine W.widen (k := 0) (n := 0) (Nat.le_refl _) (Nat.le_refl _) ?_
  obtain ⟨ce, ece⟩ : ∃ x : Nat, x = 0 := ⟨_, rfl⟩
  obtain ⟨sl, esl⟩ : ∃ x : Nat, x = 0 := ⟨_, rfl⟩
  refine W.widen (k := ce) (n := sl) (Nat.zero_le _) (Nat.zero_le _) ?_
  have hl : lv_has ls 3 [(0, .ref (ρ 699)), (1, .int x1), (2, .int x2)] := hl
  unfold fC_border at h
  have hx := C.1
  have hb := C.2.1
  have hts := C.2.2.2.2
  have hown := C.2.2.2.1
  have k_41 := hts (.fieldLink RX6 41 "PlanCabinet" "spans" "LPlanCabinet$Spans;") (by decide +kernel)
  have k_151 := hts (.constantLong RX6 151 (-9223372036854775808)) (by decide +kernel)
  have k_179 := hts (.fieldLink RX6 179 "PlanCabinet$Spans" "count" "I") (by decide +kernel)
  have in_5 : ∀ w ∈ wsX50, w ∈ wsX6_border := by decide +kernel
  have in_6 : ∀ w ∈ wsX60, w ∈ wsX6_border := by decide +kernel
  refine lv_aload_n hx hb dX6_border_0 rfl (lv_at hl 0 rfl) ?_
  obtain ⟨r_1, e_1, h⟩ := bnd_of h
  refine callC (va_runV (As := []) C (cC_tellSpans e_1) (cwV 0 hts gX6_border_X6_tellSpans rfl rfl rfl (by decide +kernel) ⟨by decide, by decide⟩) (preM (recv_699 hw.1) hw) rfl rfl hl.1 rfl (lv_room (Nat.le_of_ble_eq_true rfl)) dX6_border_1 ⟨by show _ ≤ 243; omega, by show _ ≤ 1215; omega⟩) hw (fun _ h => Or.inr h) (fun g H locs hs hw => ?_)
  have hg := sub_tr hg hs
  obtain ⟨ce, ec_1⟩ : ∃ x, x = ce + 243 := ⟨_, rfl⟩
  obtain ⟨sl, es_1⟩ : ∃ x, x = sl + 1215 := ⟨_, rfl⟩
  rw [← ec_1, ← es_1]
  refine lv_if_eq (tgt := 22) hx hb dX6_border_4 (by decide) (fun c_4 => ?_) (fun c_4 => ?_)
  · have h := zz_pos c_4 h
    refine lv_ldc2 hx hb hown k_151 dX6_border_22 ?_
    refine W.widen (k := 243) (n := 1215) (by omega) (by omega) ?_
    exact W.lret hx hb hr (fun t ht hW => QC.of (by rw [← some_of h]) (by rw [← some_of h]; exact hw) hg ht hW) hw.2.2.2.2 dX6_border_25
  · have h := zz_neg c_4 h
    refine lv_iload_n hx hb dX6_border_7 rfl (lv_at hl 1 rfl) ?_
    refine lv_if_lt (tgt := 22) hx hb dX6_border_8 (by decide) (fun c_8 => ?_) (fun c_8 => ?_)
    · have h := zz_pos c_8 h
      refine lv_ldc2 hx hb hown k_151 dX6_border_22 ?_
      refine W.widen (k := 243) (n := 1215) (by omega) (by omega) ?_
      exact W.lret hx hb hr (fun t ht hW => QC.of (by rw [← some_of h]) (by rw [← some_of h]; exact hw) hg ht hW) hw.2.2.2.2 dX6_border_25
    · have h := zz_neg c_8 h
      refine lv_iload_n hx hb dX6_border_11 rfl (lv_at hl 1 rfl) ?_
      refine lv_aload_n hx hb dX6_border_12 rfl (lv_at hl 0 rfl) ?_
      refine cG_603 C in_6 hw.1 k_41 dX6_border_13 ?_
      refine cG_500 C in_5 hw.1 k_179 dX6_border_16 ?_
      refine lv_icmp_lt (tgt := 26) hx hb dX6_border_19 (by decide) (fun c_19 => ?_) (fun c_19 => ?_)
      · have h := zz_pos c_19 h
        refine lv_iload_n hx hb dX6_border_26 rfl (lv_at hl 2 rfl) ?_
        by_cases c_27_0 : x2 = (0 : Int32)
        · have h := zz_pos c_27_0 h
          refine lv_tableIn (tgt := 56) (off := 29) hx hb dX6_border_27 (by rw [c_27_0]; decide) (by rw [c_27_0]; decide) (by rw [c_27_0]; rfl) (by decide) ?_
          refine lv_aload_n hx hb dX6_border_56 rfl (lv_at hl 0 rfl) ?_
          refine cG_603 C in_6 hw.1 k_41 dX6_border_57 ?_
          refine lv_iload_n hx hb dX6_border_60 rfl (lv_at hl 1 rfl) ?_
          obtain ⟨r_61, e_61, h⟩ := bnd_of h
          refine callP (W.runV (As := [.int x1]) C (cS_borderAbove e_61) (cwV 1 hts gX6_border_X5_borderAbove rfl rfl rfl (by decide +kernel) ⟨by decide, by decide⟩) (preR (recv_599 hw.1) hw.1) rfl rfl hl.1 rfl (lv_room (Nat.le_of_ble_eq_true rfl)) dX6_border_61 ⟨by show _ ≤ 243; omega, by show _ ≤ 1215; omega⟩) ?_
          refine W.widen (k := 243) (n := 1215) (by omega) (by omega) ?_
          exact W.lret hx hb hr (fun t ht hW => QC.of (by rw [← some_of h]) (by rw [← some_of h]; exact hw) hg ht hW) hw.2.2.2.2 dX6_border_64
        have h := zz_neg c_27_0 h
        by_cases c_27_1 : x2 = (1 : Int32)
        · have h := zz_pos c_27_1 h
          refine lv_tableIn (tgt := 65) (off := 38) hx hb dX6_border_27 (by rw [c_27_1]; decide) (by rw [c_27_1]; decide) (by rw [c_27_1]; rfl) (by decide) ?_
          refine lv_aload_n hx hb dX6_border_65 rfl (lv_at hl 0 rfl) ?_
          refine cG_603 C in_6 hw.1 k_41 dX6_border_66 ?_
          refine lv_iload_n hx hb dX6_border_69 rfl (lv_at hl 1 rfl) ?_
          obtain ⟨r_70, e_70, h⟩ := bnd_of h
          refine callP (W.runV (As := [.int x1]) C (cS_borderBelow e_70) (cwV 1 hts gX6_border_X5_borderBelow rfl rfl rfl (by decide +kernel) ⟨by decide, by decide⟩) (preR (recv_599 hw.1) hw.1) rfl rfl hl.1 rfl (lv_room (Nat.le_of_ble_eq_true rfl)) dX6_border_70 ⟨by show _ ≤ 243; omega, by show _ ≤ 1215; omega⟩) ?_
          refine W.widen (k := 243) (n := 1215) (by omega) (by omega) ?_
          exact W.lret hx hb hr (fun t ht hW => QC.of (by rw [← some_of h]) (by rw [← some_of h]; exact hw) hg ht hW) hw.2.2.2.2 dX6_border_73
        have h := zz_neg c_27_1 h
        by_cases c_27_2 : x2 = (2 : Int32)
        · have h := zz_pos c_27_2 h
          refine lv_tableIn (tgt := 74) (off := 47) hx hb dX6_border_27 (by rw [c_27_2]; decide) (by rw [c_27_2]; decide) (by rw [c_27_2]; rfl) (by decide) ?_
          refine lv_aload_n hx hb dX6_border_74 rfl (lv_at hl 0 rfl) ?_
          refine cG_603 C in_6 hw.1 k_41 dX6_border_75 ?_
          refine lv_iload_n hx hb dX6_border_78 rfl (lv_at hl 1 rfl) ?_
          refine lv_iconst (v := (1 : Int32)) hx hb dX6_border_79 (by decide) ?_
          refine lv_iadd hx hb dX6_border_80 ?_
          obtain ⟨r_81, e_81, h⟩ := bnd_of h
          refine callP (W.runV (As := [.int (x1 + (1 : Int32))]) C (cS_borderAbove e_81) (cwV 1 hts gX6_border_X5_borderAbove rfl rfl rfl (by decide +kernel) ⟨by decide, by decide⟩) (preR (recv_599 hw.1) hw.1) rfl rfl hl.1 rfl (lv_room (Nat.le_of_ble_eq_true rfl)) dX6_border_81 ⟨by show _ ≤ 243; omega, by show _ ≤ 1215; omega⟩) ?_
          refine W.widen (k := 243) (n := 1215) (by omega) (by omega) ?_
          exact W.lret hx hb hr (fun t ht hW => QC.of (by rw [← some_of h]) (by rw [← some_of h]; exact hw) hg ht hW) hw.2.2.2.2 dX6_border_84
        have h := zz_neg c_27_2 h
        by_cases c_27_3 : x2 = (3 : Int32)
        · have h := zz_pos c_27_3 h
          refine lv_tableIn (tgt := 85) (off := 58) hx hb dX6_border_27 (by rw [c_27_3]; decide) (by rw [c_27_3]; decide) (by rw [c_27_3]; rfl) (by decide) ?_
          refine lv_aload_n hx hb dX6_border_85 rfl (lv_at hl 0 rfl) ?_
          refine cG_603 C in_6 hw.1 k_41 dX6_border_86 ?_
          refine lv_iload_n hx hb dX6_border_89 rfl (lv_at hl 1 rfl) ?_
          refine lv_iconst (v := (1 : Int32)) hx hb dX6_border_90 (by decide) ?_
          refine lv_iadd hx hb dX6_border_91 ?_
          obtain ⟨r_92, e_92, h⟩ := bnd_of h
          refine callP (W.runV (As := [.int (x1 + (1 : Int32))]) C (cS_borderBelow e_92) (cwV 1 hts gX6_border_X5_borderBelow rfl rfl rfl (by decide +kernel) ⟨by decide, by decide⟩) (preR (recv_599 hw.1) hw.1) rfl rfl hl.1 rfl (lv_room (Nat.le_of_ble_eq_true rfl)) dX6_border_92 ⟨by show _ ≤ 243; omega, by show _ ≤ 1215; omega⟩) ?_
          refine W.widen (k := 243) (n := 1215) (by omega) (by omega) ?_
          exact W.lret hx hb hr (fun t ht hW => QC.of (by rw [← some_of h]) (by rw [← some_of h]; exact hw) hg ht hW) hw.2.2.2.2 dX6_border_95
        have h := zz_neg c_27_3 h
        refine lv_tableOut (tgt := 96) hx hb dX6_border_27 (by have e_0 := sw_ne (n := 0) 0 (by decide) c_27_0; have e_1 := sw_ne (n := 1) 1 (by decide) c_27_1; have e_2 := sw_ne (n := 2) 2 (by decide) c_27_2; have e_3 := sw_ne (n := 3) 3 (by decide) c_27_3; omega) (by decide) ?_
        refine lv_ldc2 hx hb hown k_151 dX6_border_96 ?_
        refine W.widen (k := 243) (n := 1215) (by omega) (by omega) ?_
        exact W.lret hx hb hr (fun t ht hW => QC.of (by rw [← some_of h]) (by rw [← some_of h]; exact hw) hg ht hW) hw.2.2.2.2 dX6_border_99
      · have h := zz_neg c_19 h
        refine lv_ldc2 hx hb hown k_151 dX6_border_22 ?_
        refine W.widen (k := 243) (n := 1215) (by omega) (by omega) ?_
        exact W.lret hx hb hr (fun t ht hW => QC.of (by rw [← some_of h]) (by rw [← some_of h]; exact hw) hg ht hW) hw.2.2.2.2 dX6_border_25
def fC_keen (N : Nat) (σ : CSt) (x1 : Int32) : Option (Int32 × CSt) := (if 0 ≤ x1 then (fC_tellSpans N σ).bind fun r_7 => (if r_7.1 = 0 then some ((-3 : Int32), r_7.2) else (if x1 < (r_7.2.1 500) then (if (r_7.2.1 606) < (60 : Int32) then (fS_planOf N r_7.2 x1).bind fun r_47 => (fC_keep N r_7.2 r_47).bind fun r_50 => some (r_50.1, r_50.2) else some ((-4 : Int32), r_7.2)) else some ((-1 : Int32), r_7.2))) else some ((-1 : Int32), σ))
set_option maxRecDepth 100000 in
set_option maxHeartbeats 4000000 in
theorem cC_keen {l : Launch} {D : va_G} {κ : Nat → ClassId} {ρ : Nat → Nat} {g0 : Gh} {sz : Nat} {N : Nat} {σ : CSt} {x1 : Int32} {q : Int32 × CSt} (h : fC_keen N σ x1 = some q) : Met l yX6_keen wsX6_keen ({ frames := 7, cells := 243, slots := 1215, locals := 180 } : Room) (va_Pc [.ref (ρ 699), .int x1] (PC D κ ρ sz g0 σ)) (QC D κ ρ sz g0 q.2 (some (.int q.1))) 243 1215 (AC ρ g0 sz) := by
  refine cMetM (Qc := fun z => QC D κ ρ z g0 q.2 (some (.int q.1))) (ret := (some .int)) (by decide) rfl rfl (Nat.le_of_ble_eq_true rfl) ?_
  intro p e s m below meth c ls C hr hlk hw hl
  obtain ⟨g, eg⟩ : ∃ x, x = g0 := ⟨_, rfl⟩
  have hw : WC D κ ρ (AC ρ g0 s.heap.size) s.heap g σ s s.heap [] := by rw [eg]; exact hw
  have hg : sub g0 g := by rw [eg]; exact sub_rf g0
  refine W.widen (k := 0) (n := 0) (Nat.le_refl _) (Nat.le_refl _) ?_
  obtain ⟨ce, ece⟩ : ∃ x : Nat, x = 0 := ⟨_, rfl⟩
  obtain ⟨sl, esl⟩ : ∃ x : Nat, x = 0 := ⟨_, rfl⟩
  refine W.widen (k := ce) (n := sl) (Nat.zero_le _) (Nat.zero_le _) ?_
  have hl : lv_has ls 2 [(0, .ref (ρ 699)), (1, .int x1)] := hl
  unfold fC_keen at h
  have hx := C.1
  have hb := C.2.1
  have hts := C.2.2.2.2
  have hown := C.2.2.2.1
  have k_41 := hts (.fieldLink RX6 41 "PlanCabinet" "spans" "LPlanCabinet$Spans;") (by decide +kernel)
  have k_58 := hts (.fieldLink RX6 58 "PlanCabinet" "planCount" "I") (by decide +kernel)
  have k_179 := hts (.fieldLink RX6 179 "PlanCabinet$Spans" "count" "I") (by decide +kernel)
  have in_5 : ∀ w ∈ wsX50, w ∈ wsX6_keen := by decide +kernel
  have in_6 : ∀ w ∈ wsX60, w ∈ wsX6_keen := by decide +kernel
  refine lv_iload_n hx hb dX6_keen_0 rfl (lv_at hl 1 rfl) ?_
  refine lv_if_ge (tgt := 6) hx hb dX6_keen_1 (by decide) (fun c_1 => ?_) (fun c_1 => ?_)
  · have h := zz_pos c_1 h
    refine lv_aload_n hx hb dX6_keen_6 rfl (lv_at hl 0 rfl) ?_
    obtain ⟨r_7, e_7, h⟩ := bnd_of h
    refine callC (va_runV (As := []) C (cC_tellSpans e_7) (cwV 0 hts gX6_keen_X6_tellSpans rfl rfl rfl (by decide +kernel) ⟨by decide, by decide⟩) (preM (recv_699 hw.1) hw) rfl rfl hl.1 rfl (lv_room (Nat.le_of_ble_eq_true rfl)) dX6_keen_7 ⟨by show _ ≤ 243; omega, by show _ ≤ 1215; omega⟩) hw (fun _ h => Or.inr h) (fun g H locs hs hw => ?_)
    have hg := sub_tr hg hs
    obtain ⟨ce, ec_7⟩ : ∃ x, x = ce + 243 := ⟨_, rfl⟩
    obtain ⟨sl, es_7⟩ : ∃ x, x = sl + 1215 := ⟨_, rfl⟩
    rw [← ec_7, ← es_7]
    refine lv_if_ne (tgt := 16) hx hb dX6_keen_10 (by decide) (fun c_10 => ?_) (fun c_10 => ?_)
    · have h := zz_neg c_10 h
      refine lv_iload_n hx hb dX6_keen_16 rfl (lv_at hl 1 rfl) ?_
      refine lv_aload_n hx hb dX6_keen_17 rfl (lv_at hl 0 rfl) ?_
      refine cG_603 C in_6 hw.1 k_41 dX6_keen_18 ?_
      refine cG_500 C in_5 hw.1 k_179 dX6_keen_21 ?_
      refine lv_icmp_lt (tgt := 29) hx hb dX6_keen_24 (by decide) (fun c_24 => ?_) (fun c_24 => ?_)
      · have h := zz_pos c_24 h
        refine lv_aload_n hx hb dX6_keen_29 rfl (lv_at hl 0 rfl) ?_
        refine cG_606 C in_6 hw.1 k_58 dX6_keen_30 ?_
        refine lv_bipush (v := (60 : Int32)) hx hb dX6_keen_33 (by decide) ?_
        refine lv_icmp_lt (tgt := 41) hx hb dX6_keen_35 (by decide) (fun c_35 => ?_) (fun c_35 => ?_)
        · have h := zz_pos c_35 h
          refine lv_aload_n hx hb dX6_keen_41 rfl (lv_at hl 0 rfl) ?_
          refine lv_aload_n hx hb dX6_keen_42 rfl (lv_at hl 0 rfl) ?_
          refine cG_603 C in_6 hw.1 k_41 dX6_keen_43 ?_
          refine lv_iload_n hx hb dX6_keen_46 rfl (lv_at hl 1 rfl) ?_
          obtain ⟨r_47, e_47, h⟩ := bnd_of h
          refine callPq (W.runV (As := [.int x1]) C (cS_planOf e_47) (cwV 1 hts gX6_keen_X5_planOf rfl rfl rfl (by decide +kernel) ⟨by decide, by decide⟩) (preR (recv_599 hw.1) hw.1) rfl rfl hl.1 rfl (lv_room (Nat.le_of_ble_eq_true rfl)) dX6_keen_47 ⟨by show _ ≤ 243; omega, by show _ ≤ 1215; omega⟩) (fun z_47 hp_47 => ?_)
          obtain ⟨r_50, e_50, h⟩ := bnd_of h
          refine callC (va_runV (As := [va_rf z_47]) C (cC_keep e_50 hp_47) (cwV 1 hts gX6_keen_X6_keep rfl rfl rfl (by decide +kernel) ⟨by decide, by decide⟩) (preM (recv_699 hw.1) hw) rfl rfl hl.1 rfl (lv_room (Nat.le_of_ble_eq_true rfl)) dX6_keen_50 ⟨by show _ ≤ 243; omega, by show _ ≤ 1215; omega⟩) hw (fun _ h => Or.inr h) (fun g H locs hs hw => ?_)
          have hg := sub_tr hg hs
          refine W.widen (k := 243) (n := 1215) (by omega) (by omega) ?_
          exact W.iret hx hb hr (fun t ht hW => QC.of (by rw [← some_of h]) (by rw [← some_of h]; exact hw) hg ht hW) hw.2.2.2.2 dX6_keen_53
        · have h := zz_neg c_35 h
          refine lv_bipush (v := (-4 : Int32)) hx hb dX6_keen_38 (by decide) ?_
          refine W.widen (k := 243) (n := 1215) (by omega) (by omega) ?_
          exact W.iret hx hb hr (fun t ht hW => QC.of (by rw [← some_of h]) (by rw [← some_of h]; exact hw) hg ht hW) hw.2.2.2.2 dX6_keen_40
      · have h := zz_neg c_24 h
        refine lv_iconst (v := (-1 : Int32)) hx hb dX6_keen_27 (by decide) ?_
        refine W.widen (k := 243) (n := 1215) (by omega) (by omega) ?_
        exact W.iret hx hb hr (fun t ht hW => QC.of (by rw [← some_of h]) (by rw [← some_of h]; exact hw) hg ht hW) hw.2.2.2.2 dX6_keen_28
    · have h := zz_pos c_10 h
      refine lv_bipush (v := (-3 : Int32)) hx hb dX6_keen_13 (by decide) ?_
      refine W.widen (k := 243) (n := 1215) (by omega) (by omega) ?_
      exact W.iret hx hb hr (fun t ht hW => QC.of (by rw [← some_of h]) (by rw [← some_of h]; exact hw) hg ht hW) hw.2.2.2.2 dX6_keen_15
  · have h := zz_neg c_1 h
    refine lv_iconst (v := (-1 : Int32)) hx hb dX6_keen_4 (by decide) ?_
    refine W.widen (k := 243) (n := 1215) (by omega) (by omega) ?_
    exact W.iret hx hb hr (fun t ht hW => QC.of (by rw [← some_of h]) (by rw [← some_of h]; exact hw) hg ht hW) hw.2.2.2.2 dX6_keen_5
def fC_areHundredths (N : Nat) (x0 : Int32) : Option (Int32) := (if x0 < 0 then some (0 : Int32) else (if (10000 : Int32) < x0 then some (0 : Int32) else some (1 : Int32)))
set_option maxRecDepth 100000 in
set_option maxHeartbeats 4000000 in
theorem cC_areHundredths {l : Launch} {N : Nat}  {x0 : Int32} {r : Int32} (h : fC_areHundredths N x0 = some r) : Met l yX6_areHundredths wsX6_areHundredths ({ frames := 0, cells := 0, slots := 0, locals := 0 } : Room) (va_Pc [.int x0] (fun _ => True)) (PU (some (.int r))) 0 0 (fun _ => False) := by
  refine sMet (ret := (some .boolean)) (by decide) rfl rfl (Nat.le_of_ble_eq_true rfl) ?_
  intro p e s m below meth c ls C hr hlk hl
  have hl : lv_has ls 1 [(0, .int x0)] := hl
  unfold fC_areHundredths at h
  have hx := C.1
  have hb := C.2.1
  have hts := C.2.2.2.2
  have hown := C.2.2.2.1
  refine lv_iload_n hx hb dX6_areHundredths_0 rfl (lv_at hl 0 rfl) ?_
  refine lv_if_lt (tgt := 15) hx hb dX6_areHundredths_1 (by decide) (fun c_1 => ?_) (fun c_1 => ?_)
  · have h := zz_pos c_1 h
    refine lv_iconst (v := (0 : Int32)) hx hb dX6_areHundredths_15 (by decide) ?_
    exact W.zret (ty := .boolean) hx hb hr (by decide +kernel) (fun t ht hW => ⟨by rw [some_of h], ht⟩) (fun _ h => by cases h) dX6_areHundredths_16
  · have h := zz_neg c_1 h
    refine lv_iload_n hx hb dX6_areHundredths_4 rfl (lv_at hl 0 rfl) ?_
    refine lv_sipush (v := (10000 : Int32)) hx hb dX6_areHundredths_5 (by decide) ?_
    refine lv_icmp_gt (tgt := 15) hx hb dX6_areHundredths_8 (by decide) (fun c_8 => ?_) (fun c_8 => ?_)
    · have h := zz_pos c_8 h
      refine lv_iconst (v := (0 : Int32)) hx hb dX6_areHundredths_15 (by decide) ?_
      exact W.zret (ty := .boolean) hx hb hr (by decide +kernel) (fun t ht hW => ⟨by rw [some_of h], ht⟩) (fun _ h => by cases h) dX6_areHundredths_16
    · have h := zz_neg c_8 h
      refine lv_iconst (v := (1 : Int32)) hx hb dX6_areHundredths_11 (by decide) ?_
      refine lv_goto (tgt := 16) hx hb dX6_areHundredths_12 (by decide) ?_
      exact W.zret (ty := .boolean) hx hb hr (by decide +kernel) (fun t ht hW => ⟨by rw [some_of h], ht⟩) (fun _ h => by cases h) dX6_areHundredths_16
