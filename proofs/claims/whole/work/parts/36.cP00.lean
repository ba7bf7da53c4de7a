/-! the class, P: codeLength, codeNumber, priceAt, isDearer, hasLineOf, joinedCode -/
def fP_codeLength (N : Nat) (σ : CSt) (x0 : Pl) : Option (Int32) := (fJ_bitCount_0f7a4 N x0.1).bind fun r_5 => some (((2 : Int32) * r_5) - (1 : Int32))
set_option maxRecDepth 100000 in
set_option maxHeartbeats 4000000 in
theorem cP_codeLength {l : Launch} {D : va_G} {κ : Nat → ClassId} {ρ : Nat → Nat} {g : Gh} {N : Nat} {σ : CSt} {x0 : Pl} {zx0 : Nat} {r : Int32} (h : fP_codeLength N σ x0 = some r) (hpx0 : (zx0, x0) ∈ g.2.2.2) : Met l yX1_codeLength wsX1_codeLength ({ frames := 1, cells := 0, slots := 0, locals := 20 } : Room) (va_Pc [.ref zx0] (PRC D κ ρ g σ)) (PU (some (.int r))) 0 0 (fun _ => False) := by
  refine cMetR (ret := (some .int)) (by decide) rfl rfl (Nat.le_of_ble_eq_true rfl) ?_
  intro p e s m below meth c ls C hr hlk hw hl
  have hl : lv_has ls 1 [(0, .ref zx0)] := hl
  unfold fP_codeLength at h
  have hx := C.1
  have hb := C.2.1
  have hts := C.2.2.2.2
  have hown := C.2.2.2.1
  have k_9 := hts (.fieldLink RX1 9 "PlanCabinet$Plan" "set" "I") (by decide +kernel)
  have in_1 : ∀ w ∈ wsX10, w ∈ wsX1_codeLength := by decide +kernel
  refine lv_iconst (v := (2 : Int32)) hx hb dX1_codeLength_0 (by decide) ?_
  refine lv_aload_n hx hb dX1_codeLength_1 rfl (lv_at hl 0 rfl) ?_
  refine cGP_0 C in_1 hw hpx0 k_9 dX1_codeLength_2 ?_
  obtain ⟨r_5, e_5, h⟩ := bnd_of h
  refine callP (W.runS (As := [.int x0.1]) C (cJ_bitCount_0f7a4 e_5) (va_cwS 1 hts gX1_codeLength_J6_bitCount_0f7a4 rfl rfl rfl (by decide +kernel) ⟨by decide, by decide⟩) preT rfl rfl hl.1 rfl (lv_room (Nat.le_of_ble_eq_true rfl)) dX1_codeLength_5 ⟨Nat.zero_le _, Nat.zero_le _⟩) ?_
  refine lv_imul hx hb dX1_codeLength_8 ?_
  refine lv_iconst (v := (1 : Int32)) hx hb dX1_codeLength_9 (by decide) ?_
  refine lv_isub hx hb dX1_codeLength_10 ?_
  exact W.iret hx hb hr (fun t ht hW => ⟨by rw [some_of h], ht⟩) (fun _ h => by cases h) dX1_codeLength_11
def fP_codeNumber (N : Nat) (σ : CSt) (x0 : Pl) (x1 : Int32) : Option (Int32) := (fP_codeLength N σ x0).bind fun r_6 => some ((x0.2.1 >>> (((3 : Int32) * ((r_6 - (1 : Int32)) - x1)) &&& 31)) &&& (7 : Int32))
set_option maxRecDepth 100000 in
set_option maxHeartbeats 4000000 in
theorem cP_codeNumber {l : Launch} {D : va_G} {κ : Nat → ClassId} {ρ : Nat → Nat} {g : Gh} {N : Nat} {σ : CSt} {x0 : Pl} {x1 : Int32} {zx0 : Nat} {r : Int32} (h : fP_codeNumber N σ x0 x1 = some r) (hpx0 : (zx0, x0) ∈ g.2.2.2) : Met l yX1_codeNumber wsX1_codeNumber ({ frames := 2, cells := 0, slots := 0, locals := 40 } : Room) (va_Pc [.ref zx0, .int x1] (PRC D κ ρ g σ)) (PU (some (.int r))) 0 0 (fun _ => False) := by
  refine cMetR (ret := (some .int)) (by decide) rfl rfl (Nat.le_of_ble_eq_true rfl) ?_
  intro p e s m below meth c ls C hr hlk hw hl
  have hl : lv_has ls 2 [(0, .ref zx0), (1, .int x1)] := hl
  unfold fP_codeNumber at h
  have hx := C.1
  have hb := C.2.1
  have hts := C.2.2.2.2
  have hown := C.2.2.2.1
  have k_15 := hts (.fieldLink RX1 15 "PlanCabinet$Plan" "packedCode" "I") (by decide +kernel)
  have in_1 : ∀ w ∈ wsX10, w ∈ wsX1_codeNumber := by decide +kernel
  refine lv_aload_n hx hb dX1_codeNumber_0 rfl (lv_at hl 0 rfl) ?_
  refine cGP_1 C in_1 hw hpx0 k_15 dX1_codeNumber_1 ?_
  refine lv_iconst (v := (3 : Int32)) hx hb dX1_codeNumber_4 (by decide) ?_
  refine lv_aload_n hx hb dX1_codeNumber_5 rfl (lv_at hl 0 rfl) ?_
  obtain ⟨r_6, e_6, h⟩ := bnd_of h
  refine callP (W.runV (As := []) C (cP_codeLength e_6 hpx0) (cwV 0 hts gX1_codeNumber_X1_codeLength rfl rfl rfl (by decide +kernel) ⟨by decide, by decide⟩) (preR (recvP hw hpx0) hw) rfl rfl hl.1 rfl (lv_room (Nat.le_of_ble_eq_true rfl)) dX1_codeNumber_6 ⟨Nat.zero_le _, Nat.zero_le _⟩) ?_
  refine lv_iconst (v := (1 : Int32)) hx hb dX1_codeNumber_9 (by decide) ?_
  refine lv_isub hx hb dX1_codeNumber_10 ?_
  refine lv_iload_n hx hb dX1_codeNumber_11 rfl (lv_at hl 1 rfl) ?_
  refine lv_isub hx hb dX1_codeNumber_12 ?_
  refine lv_imul hx hb dX1_codeNumber_13 ?_
  refine lv_ishr hx hb dX1_codeNumber_14 ?_
  refine lv_bipush (v := (7 : Int32)) hx hb dX1_codeNumber_15 (by decide) ?_
  refine lv_iand hx hb dX1_codeNumber_17 ?_
  exact W.iret hx hb hr (fun t ht hW => ⟨by rw [some_of h], ht⟩) (fun _ h => by cases h) dX1_codeNumber_18
def fP_priceAt (N : Nat) (σ : CSt) (x0 : Pl) (x1 : Int32) : Option (Int64) := some ((x0.2.2.1 * (8 : Int64)) + (x0.2.2.2.1 * x1.toInt64))
set_option maxRecDepth 100000 in
set_option maxHeartbeats 4000000 in
theorem cP_priceAt {l : Launch} {D : va_G} {κ : Nat → ClassId} {ρ : Nat → Nat} {g : Gh} {N : Nat} {σ : CSt} {x0 : Pl} {x1 : Int32} {zx0 : Nat} {r : Int64} (h : fP_priceAt N σ x0 x1 = some r) (hpx0 : (zx0, x0) ∈ g.2.2.2) : Met l yX1_priceAt wsX1_priceAt ({ frames := 0, cells := 0, slots := 0, locals := 0 } : Room) (va_Pc [.ref zx0, .int x1] (PRC D κ ρ g σ)) (PU (some (.long r))) 0 0 (fun _ => False) := by
  refine cMetR (ret := (some .long)) (by decide) rfl rfl (Nat.le_of_ble_eq_true rfl) ?_
  intro p e s m below meth c ls C hr hlk hw hl
  have hl : lv_has ls 2 [(0, .ref zx0), (1, .int x1)] := hl
  unfold fP_priceAt at h
  have hx := C.1
  have hb := C.2.1
  have hts := C.2.2.2.2
  have hown := C.2.2.2.1
  have k_18 := hts (.fieldLink RX1 18 "PlanCabinet$Plan" "a" "J") (by decide +kernel)
  have k_22 := hts (.fieldLink RX1 22 "PlanCabinet$Plan" "b" "J") (by decide +kernel)
  have k_39 := hts (.constantLong RX1 39 (8)) (by decide +kernel)
  have in_1 : ∀ w ∈ wsX10, w ∈ wsX1_priceAt := by decide +kernel
  refine lv_aload_n hx hb dX1_priceAt_0 rfl (lv_at hl 0 rfl) ?_
  refine cGP_2 C in_1 hw hpx0 k_18 dX1_priceAt_1 ?_
  refine lv_ldc2 hx hb hown k_39 dX1_priceAt_4 ?_
  refine lv_lmul hx hb dX1_priceAt_7 ?_
  refine lv_aload_n hx hb dX1_priceAt_8 rfl (lv_at hl 0 rfl) ?_
  refine cGP_3 C in_1 hw hpx0 k_22 dX1_priceAt_9 ?_
  refine lv_iload_n hx hb dX1_priceAt_12 rfl (lv_at hl 1 rfl) ?_
  refine lv_i2l hx hb dX1_priceAt_13 rfl ?_
  refine lv_lmul hx hb dX1_priceAt_14 ?_
  refine lv_ladd hx hb dX1_priceAt_15 ?_
  exact W.lret hx hb hr (fun t ht hW => ⟨by rw [some_of h], ht⟩) (fun _ h => by cases h) dX1_priceAt_16
def fP_isDearer (N : Nat) (σ : CSt) (x0 : Pl) (x1 : Option Pl) (x2 : Int64) (x4 : Int64) : Option (Int32) := on x1 (some (0 : Int32)) (fun x_1 => (if 0 ≤ (lg_cmp ((x_1.2.2.1 * x4) + (x_1.2.2.2.1 * x2)) ((x0.2.2.1 * x4) + (x0.2.2.2.1 * x2))) then some (0 : Int32) else some (1 : Int32)))
set_option maxRecDepth 100000 in
set_option maxHeartbeats 4000000 in
theorem cP_isDearer {l : Launch} {D : va_G} {κ : Nat → ClassId} {ρ : Nat → Nat} {g : Gh} {N : Nat} {σ : CSt} {x0 : Pl} {x1 : Option Pl} {x2 : Int64} {x4 : Int64} {zx0 : Nat} {zx1 : Option Nat} {r : Int32} (h : fP_isDearer N σ x0 x1 x2 x4 = some r) (hpx0 : (zx0, x0) ∈ g.2.2.2) (hpx1 : pr g.2.2.2 zx1 x1) : Met l yX1_isDearer wsX1_isDearer ({ frames := 0, cells := 0, slots := 0, locals := 0 } : Room) (va_Pc [.ref zx0, va_rf zx1, .long x2, .long x4] (PRC D κ ρ g σ)) (PU (some (.int r))) 0 0 (fun _ => False) := by
  refine cMetR (ret := (some .boolean)) (by decide) rfl rfl (by cases zx1 <;> exact Nat.le_of_ble_eq_true rfl) ?_
  intro p e s m below meth c ls C hr hlk hw hl
  have hl : lv_has ls 6 [(0, .ref zx0), (1, va_rf zx1), (2, .long x2), (4, .long x4)] := by cases zx1 <;> exact hl
  unfold fP_isDearer at h
  have hx := C.1
  have hb := C.2.1
  have hts := C.2.2.2.2
  have hown := C.2.2.2.1
  have k_18 := hts (.fieldLink RX1 18 "PlanCabinet$Plan" "a" "J") (by decide +kernel)
  have k_22 := hts (.fieldLink RX1 22 "PlanCabinet$Plan" "b" "J") (by decide +kernel)
  have in_1 : ∀ w ∈ wsX10, w ∈ wsX1_isDearer := by decide +kernel
  refine cAload_n hx hb dX1_isDearer_0 rfl (lv_at hl 1 rfl) ?_
  refine cNull (tgt := 40) hx hb hpx1 dX1_isDearer_1 (by decide) (fun ez_1 ex_1 => ?_) (fun z_1 x_1 ez_1 ex_1 hq_1 => ?_)
  · have h := on_none ex_1 h
    subst ez_1
    have hl : lv_has ls 6 [(0, .ref zx0), (1, .null), (2, .long x2), (4, .long x4)] := hl
    refine lv_iconst (v := (0 : Int32)) hx hb dX1_isDearer_40 (by decide) ?_
    exact W.zret (ty := .boolean) hx hb hr (by decide +kernel) (fun t ht hW => ⟨by rw [some_of h], ht⟩) (fun _ h => by cases h) dX1_isDearer_41
  · have h := on_some ex_1 h
    subst ez_1
    have hl : lv_has ls 6 [(0, .ref zx0), (1, .ref z_1), (2, .long x2), (4, .long x4)] := hl
    refine lv_aload_n hx hb dX1_isDearer_4 rfl (lv_at hl 1 rfl) ?_
    refine cGP_2 C in_1 hw hq_1 k_18 dX1_isDearer_5 ?_
    refine lv_lload hx hb dX1_isDearer_8 (lv_at hl 3 rfl) ?_
    refine lv_lmul hx hb dX1_isDearer_10 ?_
    refine lv_aload_n hx hb dX1_isDearer_11 rfl (lv_at hl 1 rfl) ?_
    refine cGP_3 C in_1 hw hq_1 k_22 dX1_isDearer_12 ?_
    refine lv_lload_n hx hb dX1_isDearer_15 rfl (lv_at hl 2 rfl) ?_
    refine lv_lmul hx hb dX1_isDearer_16 ?_
    refine lv_ladd hx hb dX1_isDearer_17 ?_
    refine lv_aload_n hx hb dX1_isDearer_18 rfl (lv_at hl 0 rfl) ?_
    refine cGP_2 C in_1 hw hpx0 k_18 dX1_isDearer_19 ?_
    refine lv_lload hx hb dX1_isDearer_22 (lv_at hl 3 rfl) ?_
    refine lv_lmul hx hb dX1_isDearer_24 ?_
    refine lv_aload_n hx hb dX1_isDearer_25 rfl (lv_at hl 0 rfl) ?_
    refine cGP_3 C in_1 hw hpx0 k_22 dX1_isDearer_26 ?_
    refine lv_lload_n hx hb dX1_isDearer_29 rfl (lv_at hl 2 rfl) ?_
    refine lv_lmul hx hb dX1_isDearer_30 ?_
    refine lv_ladd hx hb dX1_isDearer_31 ?_
    refine W.lcmp hx hb dX1_isDearer_32 ?_
    refine lv_if_ge (tgt := 40) hx hb dX1_isDearer_33 (by decide) (fun c_33 => ?_) (fun c_33 => ?_)
    · have h := zz_pos c_33 h
      refine lv_iconst (v := (0 : Int32)) hx hb dX1_isDearer_40 (by decide) ?_
      exact W.zret (ty := .boolean) hx hb hr (by decide +kernel) (fun t ht hW => ⟨by rw [some_of h], ht⟩) (fun _ h => by cases h) dX1_isDearer_41
    · have h := zz_neg c_33 h
      refine lv_iconst (v := (1 : Int32)) hx hb dX1_isDearer_36 (by decide) ?_
      refine lv_goto (tgt := 41) hx hb dX1_isDearer_37 (by decide) ?_
      exact W.zret (ty := .boolean) hx hb hr (by decide +kernel) (fun t ht hW => ⟨by rw [some_of h], ht⟩) (fun _ h => by cases h) dX1_isDearer_41
def fP_hasLineOf (N : Nat) (σ : CSt) (x0 : Pl) (x1 : Option Pl) : Option (Int32) := on x1 (some (0 : Int32)) (fun x_1 => (if (lg_cmp x0.2.2.1 x_1.2.2.1) = 0 then (if (lg_cmp x0.2.2.2.1 x_1.2.2.2.1) = 0 then some (1 : Int32) else some (0 : Int32)) else some (0 : Int32)))
set_option maxRecDepth 100000 in
set_option maxHeartbeats 4000000 in
theorem cP_hasLineOf {l : Launch} {D : va_G} {κ : Nat → ClassId} {ρ : Nat → Nat} {g : Gh} {N : Nat} {σ : CSt} {x0 : Pl} {x1 : Option Pl} {zx0 : Nat} {zx1 : Option Nat} {r : Int32} (h : fP_hasLineOf N σ x0 x1 = some r) (hpx0 : (zx0, x0) ∈ g.2.2.2) (hpx1 : pr g.2.2.2 zx1 x1) : Met l yX1_hasLineOf wsX1_hasLineOf ({ frames := 0, cells := 0, slots := 0, locals := 0 } : Room) (va_Pc [.ref zx0, va_rf zx1] (PRC D κ ρ g σ)) (PU (some (.int r))) 0 0 (fun _ => False) := by
  refine cMetR (ret := (some .boolean)) (by decide) rfl rfl (by cases zx1 <;> exact Nat.le_of_ble_eq_true rfl) ?_
  intro p e s m below meth c ls C hr hlk hw hl
  have hl : lv_has ls 2 [(0, .ref zx0), (1, va_rf zx1)] := by cases zx1 <;> exact hl
  unfold fP_hasLineOf at h
  have hx := C.1
  have hb := C.2.1
  have hts := C.2.2.2.2
  have hown := C.2.2.2.1
  have k_18 := hts (.fieldLink RX1 18 "PlanCabinet$Plan" "a" "J") (by decide +kernel)
  have k_22 := hts (.fieldLink RX1 22 "PlanCabinet$Plan" "b" "J") (by decide +kernel)
  have in_1 : ∀ w ∈ wsX10, w ∈ wsX1_hasLineOf := by decide +kernel
  refine cAload_n hx hb dX1_hasLineOf_0 rfl (lv_at hl 1 rfl) ?_
  refine cNull (tgt := 32) hx hb hpx1 dX1_hasLineOf_1 (by decide) (fun ez_1 ex_1 => ?_) (fun z_1 x_1 ez_1 ex_1 hq_1 => ?_)
  · have h := on_none ex_1 h
    subst ez_1
    have hl : lv_has ls 2 [(0, .ref zx0), (1, .null)] := hl
    refine lv_iconst (v := (0 : Int32)) hx hb dX1_hasLineOf_32 (by decide) ?_
    exact W.zret (ty := .boolean) hx hb hr (by decide +kernel) (fun t ht hW => ⟨by rw [some_of h], ht⟩) (fun _ h => by cases h) dX1_hasLineOf_33
  · have h := on_some ex_1 h
    subst ez_1
    have hl : lv_has ls 2 [(0, .ref zx0), (1, .ref z_1)] := hl
    refine lv_aload_n hx hb dX1_hasLineOf_4 rfl (lv_at hl 0 rfl) ?_
    refine cGP_2 C in_1 hw hpx0 k_18 dX1_hasLineOf_5 ?_
    refine lv_aload_n hx hb dX1_hasLineOf_8 rfl (lv_at hl 1 rfl) ?_
    refine cGP_2 C in_1 hw hq_1 k_18 dX1_hasLineOf_9 ?_
    refine W.lcmp hx hb dX1_hasLineOf_12 ?_
    refine lv_if_ne (tgt := 32) hx hb dX1_hasLineOf_13 (by decide) (fun c_13 => ?_) (fun c_13 => ?_)
    · have h := zz_neg c_13 h
      refine lv_iconst (v := (0 : Int32)) hx hb dX1_hasLineOf_32 (by decide) ?_
      exact W.zret (ty := .boolean) hx hb hr (by decide +kernel) (fun t ht hW => ⟨by rw [some_of h], ht⟩) (fun _ h => by cases h) dX1_hasLineOf_33
    · have h := zz_pos c_13 h
      refine lv_aload_n hx hb dX1_hasLineOf_16 rfl (lv_at hl 0 rfl) ?_
      refine cGP_3 C in_1 hw hpx0 k_22 dX1_hasLineOf_17 ?_
      refine lv_aload_n hx hb dX1_hasLineOf_20 rfl (lv_at hl 1 rfl) ?_
      refine cGP_3 C in_1 hw hq_1 k_22 dX1_hasLineOf_21 ?_
      refine W.lcmp hx hb dX1_hasLineOf_24 ?_
      refine lv_if_ne (tgt := 32) hx hb dX1_hasLineOf_25 (by decide) (fun c_25 => ?_) (fun c_25 => ?_)
      · have h := zz_neg c_25 h
        refine lv_iconst (v := (0 : Int32)) hx hb dX1_hasLineOf_32 (by decide) ?_
        exact W.zret (ty := .boolean) hx hb hr (by decide +kernel) (fun t ht hW => ⟨by rw [some_of h], ht⟩) (fun _ h => by cases h) dX1_hasLineOf_33
      · have h := zz_pos c_25 h
        refine lv_iconst (v := (1 : Int32)) hx hb dX1_hasLineOf_28 (by decide) ?_
        refine lv_goto (tgt := 33) hx hb dX1_hasLineOf_29 (by decide) ?_
        exact W.zret (ty := .boolean) hx hb hr (by decide +kernel) (fun t ht hW => ⟨by rw [some_of h], ht⟩) (fun _ h => by cases h) dX1_hasLineOf_33
def fP_joinedCode (N : Nat) (x0 : Int32) (x1 : Int32) (x2 : Int32) (x3 : Int32) (x4 : Int32) : Option (Int32) := (fJ_bitCount_0f7a4 N x3).bind fun r_3 => (fJ_bitCount_0f7a4 N x1).bind fun r_15 => some (((((4 : Int32) + x0) <<< ((((3 : Int32) * (((2 : Int32) * r_15) - (1 : Int32))) + ((3 : Int32) * (((2 : Int32) * r_3) - (1 : Int32)))) &&& 31)) ||| (x2 <<< (((3 : Int32) * (((2 : Int32) * r_3) - (1 : Int32))) &&& 31))) ||| x4)
set_option maxRecDepth 100000 in
set_option maxHeartbeats 4000000 in
theorem cP_joinedCode {l : Launch} {N : Nat}  {x0 : Int32} {x1 : Int32} {x2 : Int32} {x3 : Int32} {x4 : Int32} {r : Int32} (h : fP_joinedCode N x0 x1 x2 x3 x4 = some r) : Met l yX1_joinedCode wsX1_joinedCode ({ frames := 1, cells := 0, slots := 0, locals := 20 } : Room) (va_Pc [.int x0, .int x1, .int x2, .int x3, .int x4] (fun _ => True)) (PU (some (.int r))) 0 0 (fun _ => False) := by
  refine sMet (ret := (some .int)) (by decide) rfl rfl (Nat.le_of_ble_eq_true rfl) ?_
  intro p e s m below meth c ls C hr hlk hl
  have hl : lv_has ls 7 [(0, .int x0), (1, .int x1), (2, .int x2), (3, .int x3), (4, .int x4)] := hl
  unfold fP_joinedCode at h
  have hx := C.1
  have hb := C.2.1
  have hts := C.2.2.2.2
  have hown := C.2.2.2.1
  refine lv_iconst (v := (3 : Int32)) hx hb dX1_joinedCode_0 (by decide) ?_
  refine lv_iconst (v := (2 : Int32)) hx hb dX1_joinedCode_1 (by decide) ?_
  refine lv_iload_n hx hb dX1_joinedCode_2 rfl (lv_at hl 3 rfl) ?_
  obtain ⟨r_3, e_3, h⟩ := bnd_of h
  refine callP (W.runS (As := [.int x3]) C (cJ_bitCount_0f7a4 e_3) (va_cwS 1 hts gX1_joinedCode_J6_bitCount_0f7a4 rfl rfl rfl (by decide +kernel) ⟨by decide, by decide⟩) preT rfl rfl hl.1 rfl (lv_room (Nat.le_of_ble_eq_true rfl)) dX1_joinedCode_3 ⟨Nat.zero_le _, Nat.zero_le _⟩) ?_
  refine lv_imul hx hb dX1_joinedCode_6 ?_
  refine lv_iconst (v := (1 : Int32)) hx hb dX1_joinedCode_7 (by decide) ?_
  refine lv_isub hx hb dX1_joinedCode_8 ?_
  refine lv_imul hx hb dX1_joinedCode_9 ?_
  refine lv_istore (lv' := [(5, .int ((3 : Int32) * (((2 : Int32) * r_3) - (1 : Int32)))), (0, .int x0), (1, .int x1), (2, .int x2), (3, .int x3), (4, .int x4)]) hx hb dX1_joinedCode_10 hl (by decide) rfl (fun ls hl => ?_)
  refine lv_iconst (v := (3 : Int32)) hx hb dX1_joinedCode_12 (by decide) ?_
  refine lv_iconst (v := (2 : Int32)) hx hb dX1_joinedCode_13 (by decide) ?_
  refine lv_iload_n hx hb dX1_joinedCode_14 rfl (lv_at hl 2 rfl) ?_
  obtain ⟨r_15, e_15, h⟩ := bnd_of h
  refine callP (W.runS (As := [.int x1]) C (cJ_bitCount_0f7a4 e_15) (va_cwS 1 hts gX1_joinedCode_J6_bitCount_0f7a4 rfl rfl rfl (by decide +kernel) ⟨by decide, by decide⟩) preT rfl rfl hl.1 rfl (lv_room (Nat.le_of_ble_eq_true rfl)) dX1_joinedCode_15 ⟨Nat.zero_le _, Nat.zero_le _⟩) ?_
  refine lv_imul hx hb dX1_joinedCode_18 ?_
  refine lv_iconst (v := (1 : Int32)) hx hb dX1_joinedCode_19 (by decide) ?_
  refine lv_isub hx hb dX1_joinedCode_20 ?_
  refine lv_imul hx hb dX1_joinedCode_21 ?_
  refine lv_istore (lv' := [(6, .int ((3 : Int32) * (((2 : Int32) * r_15) - (1 : Int32)))), (5, .int ((3 : Int32) * (((2 : Int32) * r_3) - (1 : Int32)))), (0, .int x0), (1, .int x1), (2, .int x2), (3, .int x3), (4, .int x4)]) hx hb dX1_joinedCode_22 hl (by decide) rfl (fun ls hl => ?_)
  refine lv_iconst (v := (4 : Int32)) hx hb dX1_joinedCode_24 (by decide) ?_
  refine lv_iload_n hx hb dX1_joinedCode_25 rfl (lv_at hl 2 rfl) ?_
  refine lv_iadd hx hb dX1_joinedCode_26 ?_
  refine lv_iload hx hb dX1_joinedCode_27 (lv_at hl 0 rfl) ?_
  refine lv_iload hx hb dX1_joinedCode_29 (lv_at hl 1 rfl) ?_
  refine lv_iadd hx hb dX1_joinedCode_31 ?_
  refine lv_ishl hx hb dX1_joinedCode_32 ?_
  refine lv_iload_n hx hb dX1_joinedCode_33 rfl (lv_at hl 4 rfl) ?_
  refine lv_iload hx hb dX1_joinedCode_34 (lv_at hl 1 rfl) ?_
  refine lv_ishl hx hb dX1_joinedCode_36 ?_
  refine lv_ior hx hb dX1_joinedCode_37 ?_
  refine lv_iload hx hb dX1_joinedCode_38 (lv_at hl 6 rfl) ?_
  refine lv_ior hx hb dX1_joinedCode_40 ?_
  exact W.iret hx hb hr (fun t ht hW => ⟨by rw [some_of h], ht⟩) (fun _ h => by cases h) dX1_joinedCode_41
