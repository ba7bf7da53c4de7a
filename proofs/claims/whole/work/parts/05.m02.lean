/-! the reference: price, at, bestAt, isPoint, best, divisor, span, spans, border, keen, isNear -/
def fM_price (N : Nat) (σ : MSt) (x1 : Int32) (x2 : Int32) : Option (Int64 × MSt) := (fM_isPlan N σ x1).bind fun r_2 => (if r_2 = 0 then some ((-9223372036854775808 : Int64), σ) else (if x2 < 0 then some ((-9223372036854775808 : Int64), σ) else (if x2 ≤ (3 : Int32) then (fM_list N σ).bind fun r_22 => chk x1 60 (chk x1 60 ((fM_find N r_22 (r_22.2.2.1 13 x1.toNatClampNeg) (r_22.2.2.1 12 x1.toNatClampNeg)).bind fun r_38 => (if x2 = 0 then chk r_38 5000 (some ((r_22.2.2.2 20 r_38.toNatClampNeg), r_22)) else (if x2 = (1 : Int32) then chk r_38 5000 (some ((r_22.2.2.2 21 r_38.toNatClampNeg), r_22)) else chk x1 60 ((fM_size N r_22 (r_22.2.2.1 13 x1.toNatClampNeg)).bind fun r_72 => (if x2 = (2 : Int32) then some ((r_72.2.1 14), r_72) else some ((r_72.2.1 15), r_72))))))) else some ((-9223372036854775808 : Int64), σ))))
set_option maxRecDepth 100000 in
set_option maxHeartbeats 4000000 in
theorem cM_price {l : Launch} {D : va_G} {κ : Nat → ClassId} {ρ : Nat → Nat} {sz : Nat} {N : Nat} {σ : MSt} {x1 : Int32} {x2 : Int32} {q : Int64 × MSt} (h : fM_price N σ x1 x2 = some q) : Met l yX7_price wsX7_price ({ frames := 5, cells := 0, slots := 0, locals := 117 } : Room) (va_Pc [.ref (ρ 40), .int x1, .int x2] (PM D κ ρ sz σ)) (QM D κ ρ sz q.2 (some (.long q.1))) 0 0 (AM ρ sz) := by
  refine mMetM (ret := (some .long)) (by decide) rfl rfl (Nat.le_of_ble_eq_true rfl) ?_
  intro p e s m below meth c ls C hr hlk hD hP hl
  have hS : va_S (AM ρ s.heap.size) s.heap s.heap [] := va_S.rf
  have hl : lv_has ls 4 [(0, .ref (ρ 40)), (1, .int x1), (2, .int x2)] := hl
  unfold fM_price at h
  have hx := C.1.1
  have hb := C.1.2.1
  have hts := C.1.2.2.2.2
  have hown := C.1.2.2.2.1
  have k_47 := hts (.fieldLink RX7 47 "PlanCabinetModel" "planCode" "[I") (by decide +kernel)
  have k_50 := hts (.fieldLink RX7 50 "PlanCabinetModel" "planSet" "[I") (by decide +kernel)
  have k_53 := hts (.fieldLink RX7 53 "PlanCabinetModel" "a" "J") (by decide +kernel)
  have k_57 := hts (.fieldLink RX7 57 "PlanCabinetModel" "b" "J") (by decide +kernel)
  have k_72 := hts (.fieldLink RX7 72 "PlanCabinetModel" "priceA" "[J") (by decide +kernel)
  have k_76 := hts (.fieldLink RX7 76 "PlanCabinetModel" "priceB" "[J") (by decide +kernel)
  have k_222 := hts (.constantLong RX7 222 (-9223372036854775808)) (by decide +kernel)
  have in_7 : ∀ w ∈ wsX70, w ∈ wsX7_price := by decide +kernel
  refine lv_aload_n hx hb dX7_price_0 rfl (lv_at hl 0 rfl) ?_
  refine lv_iload_n hx hb dX7_price_1 rfl (lv_at hl 1 rfl) ?_
  obtain ⟨r_2, e_2, h⟩ := bnd_of h
  refine callP (W.runV (As := [.int x1]) C.1 (cM_isPlan e_2) (cwV 1 hts gX7_price_X7_isPlan rfl rfl rfl (by decide +kernel) ⟨by decide, by decide⟩) (mPreR C.2 hP _) rfl rfl hl.1 rfl (lv_room (Nat.le_of_ble_eq_true rfl)) dX7_price_2 ⟨Nat.zero_le _, Nat.zero_le _⟩) ?_
  refine lv_if_eq (tgt := 17) hx hb dX7_price_5 (by decide) (fun c_5 => ?_) (fun c_5 => ?_)
  · have h := zz_pos c_5 h
    refine lv_ldc2 hx hb hown k_222 dX7_price_17 ?_
    exact W.lret hx hb hr (fun t ht hW => ⟨by rw [← some_of h], by rw [ht, ← some_of h]; exact hP, hS.F ht⟩) hS.2.2 dX7_price_20
  · have h := zz_neg c_5 h
    refine lv_iload_n hx hb dX7_price_8 rfl (lv_at hl 2 rfl) ?_
    refine lv_if_lt (tgt := 17) hx hb dX7_price_9 (by decide) (fun c_9 => ?_) (fun c_9 => ?_)
    · have h := zz_pos c_9 h
      refine lv_ldc2 hx hb hown k_222 dX7_price_17 ?_
      exact W.lret hx hb hr (fun t ht hW => ⟨by rw [← some_of h], by rw [ht, ← some_of h]; exact hP, hS.F ht⟩) hS.2.2 dX7_price_20
    · have h := zz_neg c_9 h
      refine lv_iload_n hx hb dX7_price_12 rfl (lv_at hl 2 rfl) ?_
      refine lv_iconst (v := (3 : Int32)) hx hb dX7_price_13 (by decide) ?_
      refine lv_icmp_le (tgt := 21) hx hb dX7_price_14 (by decide) (fun c_14 => ?_) (fun c_14 => ?_)
      · have h := zz_pos c_14 h
        refine lv_aload_n hx hb dX7_price_21 rfl (lv_at hl 0 rfl) ?_
        obtain ⟨r_22, e_22, h⟩ := bnd_of h
        refine mCall (va_runV (As := []) C.1 (cM_list e_22) (cwV 0 hts gX7_price_X7_list rfl rfl rfl (by decide +kernel) ⟨by decide, by decide⟩) (mPreM C.2 hP hD _) rfl rfl hl.1 rfl (lv_room (Nat.le_of_ble_eq_true rfl)) dX7_price_22 ⟨Nat.zero_le _, Nat.zero_le _⟩) hS hD (fun _ h => Or.inr h) (fun H locs hP hS => ?_)
        refine lv_aload_n hx hb dX7_price_25 rfl (lv_at hl 0 rfl) ?_
        refine lv_aload_n hx hb dX7_price_26 rfl (lv_at hl 0 rfl) ?_
        refine mG_13 C in_7 hP k_50 dX7_price_27 ?_
        refine lv_iload_n hx hb dX7_price_30 rfl (lv_at hl 1 rfl) ?_
        obtain ⟨b_31, h⟩ := chk_of h
        refine mL_13 C hP b_31 dX7_price_31 ?_
        refine lv_aload_n hx hb dX7_price_32 rfl (lv_at hl 0 rfl) ?_
        refine mG_12 C in_7 hP k_47 dX7_price_33 ?_
        refine lv_iload_n hx hb dX7_price_36 rfl (lv_at hl 1 rfl) ?_
        obtain ⟨b_37, h⟩ := chk_of h
        refine mL_12 C hP b_37 dX7_price_37 ?_
        obtain ⟨r_38, e_38, h⟩ := bnd_of h
        refine callP (W.runV (As := [.int (r_22.2.2.1 13 x1.toNatClampNeg), .int (r_22.2.2.1 12 x1.toNatClampNeg)]) C.1 (cM_find e_38) (cwV 2 hts gX7_price_X7_find rfl rfl rfl (by decide +kernel) ⟨by decide, by decide⟩) (mPreR C.2 hP _) rfl rfl hl.1 rfl (lv_room (Nat.le_of_ble_eq_true rfl)) dX7_price_38 ⟨Nat.zero_le _, Nat.zero_le _⟩) ?_
        refine lv_istore_n (lv' := [(3, .int r_38), (0, .ref (ρ 40)), (1, .int x1), (2, .int x2)]) hx hb dX7_price_41 rfl hl (by decide) rfl (fun ls hl => ?_)
        refine lv_iload_n hx hb dX7_price_42 rfl (lv_at hl 3 rfl) ?_
        refine lv_if_ne (tgt := 53) hx hb dX7_price_43 (by decide) (fun c_43 => ?_) (fun c_43 => ?_)
        · have h := zz_neg c_43 h
          refine lv_iload_n hx hb dX7_price_53 rfl (lv_at hl 3 rfl) ?_
          refine lv_iconst (v := (1 : Int32)) hx hb dX7_price_54 (by decide) ?_
          refine lv_icmp_ne (tgt := 65) hx hb dX7_price_55 (by decide) (fun c_55 => ?_) (fun c_55 => ?_)
          · have h := zz_neg c_55 h
            refine lv_aload_n hx hb dX7_price_65 rfl (lv_at hl 1 rfl) ?_
            refine lv_aload_n hx hb dX7_price_66 rfl (lv_at hl 1 rfl) ?_
            refine mG_13 C in_7 hP k_50 dX7_price_67 ?_
            refine lv_iload_n hx hb dX7_price_70 rfl (lv_at hl 2 rfl) ?_
            obtain ⟨b_71, h⟩ := chk_of h
            refine mL_13 C hP b_71 dX7_price_71 ?_
            obtain ⟨r_72, e_72, h⟩ := bnd_of h
            refine mCall (va_runV (As := [.int (r_22.2.2.1 13 x1.toNatClampNeg)]) C.1 (cM_size e_72) (cwV 1 hts gX7_price_X7_size rfl rfl rfl (by decide +kernel) ⟨by decide, by decide⟩) (mPreM C.2 hP hD _) rfl rfl hl.1 rfl (lv_room (Nat.le_of_ble_eq_true rfl)) dX7_price_72 ⟨Nat.zero_le _, Nat.zero_le _⟩) hS hD (fun _ h => Or.inr h) (fun H locs hP hS => ?_)
            refine lv_iload_n hx hb dX7_price_75 rfl (lv_at hl 3 rfl) ?_
            refine lv_iconst (v := (2 : Int32)) hx hb dX7_price_76 (by decide) ?_
            refine lv_icmp_ne (tgt := 87) hx hb dX7_price_77 (by decide) (fun c_77 => ?_) (fun c_77 => ?_)
            · have h := zz_neg c_77 h
              refine lv_aload_n hx hb dX7_price_87 rfl (lv_at hl 1 rfl) ?_
              refine mG_15 C in_7 hP k_57 dX7_price_88 ?_
              exact W.lret hx hb hr (fun t ht hW => ⟨by rw [← some_of h], by rw [ht, ← some_of h]; exact hP, hS.F ht⟩) hS.2.2 dX7_price_91
            · have h := zz_pos c_77 h
              refine lv_aload_n hx hb dX7_price_80 rfl (lv_at hl 1 rfl) ?_
              refine mG_14 C in_7 hP k_53 dX7_price_81 ?_
              refine lv_goto (tgt := 91) hx hb dX7_price_84 (by decide) ?_
              exact W.lret hx hb hr (fun t ht hW => ⟨by rw [← some_of h], by rw [ht, ← some_of h]; exact hP, hS.F ht⟩) hS.2.2 dX7_price_91
          · have h := zz_pos c_55 h
            refine lv_aload_n hx hb dX7_price_58 rfl (lv_at hl 1 rfl) ?_
            refine mG_21 C in_7 hP k_76 dX7_price_59 ?_
            refine lv_iload_n hx hb dX7_price_62 rfl (lv_at hl 0 rfl) ?_
            obtain ⟨b_63, h⟩ := chk_of h
            refine mL_21 C hP b_63 dX7_price_63 ?_
            exact W.lret hx hb hr (fun t ht hW => ⟨by rw [← some_of h], by rw [ht, ← some_of h]; exact hP, hS.F ht⟩) hS.2.2 dX7_price_64
        · have h := zz_pos c_43 h
          refine lv_aload_n hx hb dX7_price_46 rfl (lv_at hl 1 rfl) ?_
          refine mG_20 C in_7 hP k_72 dX7_price_47 ?_
          refine lv_iload_n hx hb dX7_price_50 rfl (lv_at hl 0 rfl) ?_
          obtain ⟨b_51, h⟩ := chk_of h
          refine mL_20 C hP b_51 dX7_price_51 ?_
          exact W.lret hx hb hr (fun t ht hW => ⟨by rw [← some_of h], by rw [ht, ← some_of h]; exact hP, hS.F ht⟩) hS.2.2 dX7_price_52
      · have h := zz_neg c_14 h
        refine lv_ldc2 hx hb hown k_222 dX7_price_17 ?_
        exact W.lret hx hb hr (fun t ht hW => ⟨by rw [← some_of h], by rw [ht, ← some_of h]; exact hP, hS.F ht⟩) hS.2.2 dX7_price_20
def fM_at (N : Nat) (σ : MSt) (x1 : Int32) (x2 : Int32) : Option (Int64) := chk x1 5000 (chk x1 5000 (some (((8 : Int64) * (σ.2.2.2 20 x1.toNatClampNeg)) + (x2.toInt64 * (σ.2.2.2 21 x1.toNatClampNeg)))))
set_option maxRecDepth 100000 in
set_option maxHeartbeats 4000000 in
theorem cM_at {l : Launch} {D : va_G} {κ : Nat → ClassId} {ρ : Nat → Nat} {N : Nat} {σ : MSt} {x1 : Int32} {x2 : Int32} {r : Int64} (h : fM_at N σ x1 x2 = some r) : Met l yX7_at wsX7_at ({ frames := 0, cells := 0, slots := 0, locals := 0 } : Room) (va_Pc [.ref (ρ 40), .int x1, .int x2] (PR D κ ρ σ)) (PU (some (.long r))) 0 0 (fun _ => False) := by
  refine mMetR (ret := (some .long)) (by decide) rfl rfl (Nat.le_of_ble_eq_true rfl) ?_
  intro p e s m below meth c ls C hr hlk hP hl
  have hl : lv_has ls 3 [(0, .ref (ρ 40)), (1, .int x1), (2, .int x2)] := hl
  unfold fM_at at h
  have hx := C.1.1
  have hb := C.1.2.1
  have hts := C.1.2.2.2.2
  have hown := C.1.2.2.2.1
  have k_72 := hts (.fieldLink RX7 72 "PlanCabinetModel" "priceA" "[J") (by decide +kernel)
  have k_76 := hts (.fieldLink RX7 76 "PlanCabinetModel" "priceB" "[J") (by decide +kernel)
  have k_224 := hts (.constantLong RX7 224 (8)) (by decide +kernel)
  have in_7 : ∀ w ∈ wsX70, w ∈ wsX7_at := by decide +kernel
  refine lv_ldc2 hx hb hown k_224 dX7_at_0 ?_
  refine lv_aload_n hx hb dX7_at_3 rfl (lv_at hl 0 rfl) ?_
  refine mG_20 C in_7 hP k_72 dX7_at_4 ?_
  refine lv_iload_n hx hb dX7_at_7 rfl (lv_at hl 1 rfl) ?_
  obtain ⟨b_8, h⟩ := chk_of h
  refine mL_20 C hP b_8 dX7_at_8 ?_
  refine lv_lmul hx hb dX7_at_9 ?_
  refine lv_iload_n hx hb dX7_at_10 rfl (lv_at hl 2 rfl) ?_
  refine lv_i2l hx hb dX7_at_11 rfl ?_
  refine lv_aload_n hx hb dX7_at_12 rfl (lv_at hl 0 rfl) ?_
  refine mG_21 C in_7 hP k_76 dX7_at_13 ?_
  refine lv_iload_n hx hb dX7_at_16 rfl (lv_at hl 1 rfl) ?_
  obtain ⟨b_17, h⟩ := chk_of h
  refine mL_21 C hP b_17 dX7_at_17 ?_
  refine lv_lmul hx hb dX7_at_18 ?_
  refine lv_ladd hx hb dX7_at_19 ?_
  exact W.lret hx hb hr (fun t ht hW => ⟨by rw [some_of h], ht⟩) (fun _ h => by cases h) dX7_at_20
def fM_bestAt_L12 (N : Nat) (σ : MSt) : Nat → Int32 → Int32 → Int32 → Option (Int32)
  | 0, _, _, _ => none
  | n + 1, x1, x2, x3 => (if (σ.1 22) ≤ x3 then some x2 else (fM_at N σ x3 x1).bind fun r_23 => (fM_at N σ x2 x1).bind fun r_29 => (if (lg_cmp r_23 r_29) < 0 then fM_bestAt_L12 N σ n x1 x3 (x3 + 1) else (fM_at N σ x3 x1).bind fun r_39 => (fM_at N σ x2 x1).bind fun r_45 => (if (lg_cmp r_39 r_45) = 0 then chk x3 5000 (chk x2 5000 ((if (σ.2.2.1 17 x2.toNatClampNeg) ≤ (σ.2.2.1 17 x3.toNatClampNeg) then fM_bestAt_L12 N σ n x1 x2 (x3 + 1) else fM_bestAt_L12 N σ n x1 x3 (x3 + 1)))) else fM_bestAt_L12 N σ n x1 x2 (x3 + 1))))
def fM_bestAt (N : Nat) (σ : MSt) (x1 : Int32) : Option (Int32) := (fM_all N σ).bind fun r_5 => chk r_5 17 (fM_bestAt_L12 N σ N x1 (σ.2.2.1 16 r_5.toNatClampNeg) (σ.2.2.1 16 r_5.toNatClampNeg))
set_option maxRecDepth 100000 in
set_option maxHeartbeats 4000000 in
theorem wM_bestAt_L12 {p : Program} {l : Launch} {e : Env} {s : State} {m : MethodId} {args : Array Value} {below : List Frame} {meth : Method} {c : Code} {D : va_G} {κ : Nat → ClassId} {ρ : Nat → Nat} {σ : MSt} (C : MC p m c cX7_bestAt 4 s args wsX7_bestAt D κ) (hr : meth.sig.returnType = (some .int)) (hlk : meth.locks = false) (hP : va_P D vwCl (cellsM κ ρ σ) s.heap) {N : Nat} {r : Int32} : ∀ (n : Nat) (x1 : Int32) (x2 : Int32) (x3 : Int32) (ls : Array Slot), fM_bestAt_L12 N σ n x1 x2 x3 = some r → lv_has ls 4 [(0, .ref (ρ 40)), (1, .int x1), (2, .int x2), (3, .int x3)] → W p l e ({ frames := 1, cells := 0, slots := 0, locals := 22 } : Room) s m args below meth c s.heap [] 0 0 (MQ below (PU (some (.int r))) args s 0 0 (fun _ => False)) (F0 m 12 ls []) := by
  have hx := C.1.1
  have hb := C.1.2.1
  have hts := C.1.2.2.2.2
  have hown := C.1.2.2.2.1
  have k_63 := hts (.fieldLink RX7 63 "PlanCabinetModel" "code" "[I") (by decide +kernel)
  have k_79 := hts (.fieldLink RX7 79 "PlanCabinetModel" "listed" "I") (by decide +kernel)
  have in_7 : ∀ w ∈ wsX70, w ∈ wsX7_bestAt := by decide +kernel
  intro n
  induction n with
  | zero =>
    intro x1 x2 x3 ls h hl
    rw [fM_bestAt_L12] at h
    cases h
  | succ n ih =>
    intro x1 x2 x3 ls h hl
    rw [fM_bestAt_L12] at h
    refine lv_iload_n hx hb dX7_bestAt_12 rfl (lv_at hl 3 rfl) ?_
    refine lv_aload_n hx hb dX7_bestAt_13 rfl (lv_at hl 0 rfl) ?_
    refine mG_22 C in_7 hP k_79 dX7_bestAt_14 ?_
    refine lv_icmp_ge (tgt := 75) hx hb dX7_bestAt_17 (by decide) (fun c_17 => ?_) (fun c_17 => ?_)
    · have h := zz_pos c_17 h
      refine lv_iload_n hx hb dX7_bestAt_75 rfl (lv_at hl 2 rfl) ?_
      exact W.iret hx hb hr (fun t ht hW => ⟨by rw [some_of h], ht⟩) (fun _ h => by cases h) dX7_bestAt_76
    · have h := zz_neg c_17 h
      refine lv_aload_n hx hb dX7_bestAt_20 rfl (lv_at hl 0 rfl) ?_
      refine lv_iload_n hx hb dX7_bestAt_21 rfl (lv_at hl 3 rfl) ?_
      refine lv_iload_n hx hb dX7_bestAt_22 rfl (lv_at hl 1 rfl) ?_
      obtain ⟨r_23, e_23, h⟩ := bnd_of h
      refine callP (W.runV (As := [.int x3, .int x1]) C.1 (cM_at e_23) (cwV 2 hts gX7_bestAt_X7_at rfl rfl rfl (by decide +kernel) ⟨by decide, by decide⟩) (mPreR C.2 hP _) rfl rfl hl.1 rfl (lv_room (Nat.le_of_ble_eq_true rfl)) dX7_bestAt_23 ⟨Nat.zero_le _, Nat.zero_le _⟩) ?_
      refine lv_aload_n hx hb dX7_bestAt_26 rfl (lv_at hl 0 rfl) ?_
      refine lv_iload_n hx hb dX7_bestAt_27 rfl (lv_at hl 2 rfl) ?_
      refine lv_iload_n hx hb dX7_bestAt_28 rfl (lv_at hl 1 rfl) ?_
      obtain ⟨r_29, e_29, h⟩ := bnd_of h
      refine callP (W.runV (As := [.int x2, .int x1]) C.1 (cM_at e_29) (cwV 2 hts gX7_bestAt_X7_at rfl rfl rfl (by decide +kernel) ⟨by decide, by decide⟩) (mPreR C.2 hP _) rfl rfl hl.1 rfl (lv_room (Nat.le_of_ble_eq_true rfl)) dX7_bestAt_29 ⟨Nat.zero_le _, Nat.zero_le _⟩) ?_
      refine W.lcmp hx hb dX7_bestAt_32 ?_
      refine lv_if_lt (tgt := 67) hx hb dX7_bestAt_33 (by decide) (fun c_33 => ?_) (fun c_33 => ?_)
      · have h := zz_pos c_33 h
        refine lv_iload_n hx hb dX7_bestAt_67 rfl (lv_at hl 3 rfl) ?_
        refine lv_istore_n (lv' := [(2, .int x3), (0, .ref (ρ 40)), (1, .int x1), (3, .int x3)]) hx hb dX7_bestAt_68 rfl hl (by decide) rfl (fun ls hl => ?_)
        refine lv_iinc (v := (x3 + 1)) (lv' := [(3, .int (x3 + 1)), (2, .int x3), (0, .ref (ρ 40)), (1, .int x1)]) hx hb dX7_bestAt_69 hl (k := 3) rfl rfl (by decide) rfl (fun ls hl => ?_)
        refine lv_goto (tgt := 12) hx hb dX7_bestAt_72 (by decide) ?_
        exact ih _ _ _ _ h (lv_sub hl [2, 3, 1, 0] rfl)
      · have h := zz_neg c_33 h
        refine lv_aload_n hx hb dX7_bestAt_36 rfl (lv_at hl 0 rfl) ?_
        refine lv_iload_n hx hb dX7_bestAt_37 rfl (lv_at hl 3 rfl) ?_
        refine lv_iload_n hx hb dX7_bestAt_38 rfl (lv_at hl 1 rfl) ?_
        obtain ⟨r_39, e_39, h⟩ := bnd_of h
        refine callP (W.runV (As := [.int x3, .int x1]) C.1 (cM_at e_39) (cwV 2 hts gX7_bestAt_X7_at rfl rfl rfl (by decide +kernel) ⟨by decide, by decide⟩) (mPreR C.2 hP _) rfl rfl hl.1 rfl (lv_room (Nat.le_of_ble_eq_true rfl)) dX7_bestAt_39 ⟨Nat.zero_le _, Nat.zero_le _⟩) ?_
        refine lv_aload_n hx hb dX7_bestAt_42 rfl (lv_at hl 0 rfl) ?_
        refine lv_iload_n hx hb dX7_bestAt_43 rfl (lv_at hl 2 rfl) ?_
        refine lv_iload_n hx hb dX7_bestAt_44 rfl (lv_at hl 1 rfl) ?_
        obtain ⟨r_45, e_45, h⟩ := bnd_of h
        refine callP (W.runV (As := [.int x2, .int x1]) C.1 (cM_at e_45) (cwV 2 hts gX7_bestAt_X7_at rfl rfl rfl (by decide +kernel) ⟨by decide, by decide⟩) (mPreR C.2 hP _) rfl rfl hl.1 rfl (lv_room (Nat.le_of_ble_eq_true rfl)) dX7_bestAt_45 ⟨Nat.zero_le _, Nat.zero_le _⟩) ?_
        refine W.lcmp hx hb dX7_bestAt_48 ?_
        refine lv_if_ne (tgt := 69) hx hb dX7_bestAt_49 (by decide) (fun c_49 => ?_) (fun c_49 => ?_)
        · have h := zz_neg c_49 h
          refine lv_iinc (v := (x3 + 1)) (lv' := [(3, .int (x3 + 1)), (0, .ref (ρ 40)), (1, .int x1), (2, .int x2)]) hx hb dX7_bestAt_69 hl (k := 3) rfl rfl (by decide) rfl (fun ls hl => ?_)
          refine lv_goto (tgt := 12) hx hb dX7_bestAt_72 (by decide) ?_
          exact ih _ _ _ _ h (lv_sub hl [1, 2, 3, 0] rfl)
        · have h := zz_pos c_49 h
          refine lv_aload_n hx hb dX7_bestAt_52 rfl (lv_at hl 0 rfl) ?_
          refine mG_17 C in_7 hP k_63 dX7_bestAt_53 ?_
          refine lv_iload_n hx hb dX7_bestAt_56 rfl (lv_at hl 3 rfl) ?_
          obtain ⟨b_57, h⟩ := chk_of h
          refine mL_17 C hP b_57 dX7_bestAt_57 ?_
          refine lv_aload_n hx hb dX7_bestAt_58 rfl (lv_at hl 0 rfl) ?_
          refine mG_17 C in_7 hP k_63 dX7_bestAt_59 ?_
          refine lv_iload_n hx hb dX7_bestAt_62 rfl (lv_at hl 2 rfl) ?_
          obtain ⟨b_63, h⟩ := chk_of h
          refine mL_17 C hP b_63 dX7_bestAt_63 ?_
          refine lv_icmp_ge (tgt := 69) hx hb dX7_bestAt_64 (by decide) (fun c_64 => ?_) (fun c_64 => ?_)
          · have h := zz_pos c_64 h
            refine lv_iinc (v := (x3 + 1)) (lv' := [(3, .int (x3 + 1)), (0, .ref (ρ 40)), (1, .int x1), (2, .int x2)]) hx hb dX7_bestAt_69 hl (k := 3) rfl rfl (by decide) rfl (fun ls hl => ?_)
            refine lv_goto (tgt := 12) hx hb dX7_bestAt_72 (by decide) ?_
            exact ih _ _ _ _ h (lv_sub hl [1, 2, 3, 0] rfl)
          · have h := zz_neg c_64 h
            refine lv_iload_n hx hb dX7_bestAt_67 rfl (lv_at hl 3 rfl) ?_
            refine lv_istore_n (lv' := [(2, .int x3), (0, .ref (ρ 40)), (1, .int x1), (3, .int x3)]) hx hb dX7_bestAt_68 rfl hl (by decide) rfl (fun ls hl => ?_)
            refine lv_iinc (v := (x3 + 1)) (lv' := [(3, .int (x3 + 1)), (2, .int x3), (0, .ref (ρ 40)), (1, .int x1)]) hx hb dX7_bestAt_69 hl (k := 3) rfl rfl (by decide) rfl (fun ls hl => ?_)
            refine lv_goto (tgt := 12) hx hb dX7_bestAt_72 (by decide) ?_
            exact ih _ _ _ _ h (lv_sub hl [2, 3, 1, 0] rfl)
set_option maxRecDepth 100000 in
set_option maxHeartbeats 4000000 in
theorem cM_bestAt {l : Launch} {D : va_G} {κ : Nat → ClassId} {ρ : Nat → Nat} {N : Nat} {σ : MSt} {x1 : Int32} {r : Int32} (h : fM_bestAt N σ x1 = some r) : Met l yX7_bestAt wsX7_bestAt ({ frames := 1, cells := 0, slots := 0, locals := 22 } : Room) (va_Pc [.ref (ρ 40), .int x1] (PR D κ ρ σ)) (PU (some (.int r))) 0 0 (fun _ => False) := by
  refine mMetR (ret := (some .int)) (by decide) rfl rfl (Nat.le_of_ble_eq_true rfl) ?_
  intro p e s m below meth c ls C hr hlk hP hl
  have hl : lv_has ls 4 [(0, .ref (ρ 40)), (1, .int x1)] := hl
  unfold fM_bestAt at h
  have hx := C.1.1
  have hb := C.1.2.1
  have hts := C.1.2.2.2.2
  have hown := C.1.2.2.2.1
  have k_60 := hts (.fieldLink RX7 60 "PlanCabinetModel" "from" "[I") (by decide +kernel)
  have in_7 : ∀ w ∈ wsX70, w ∈ wsX7_bestAt := by decide +kernel
  refine lv_aload_n hx hb dX7_bestAt_0 rfl (lv_at hl 0 rfl) ?_
  refine mG_16 C in_7 hP k_60 dX7_bestAt_1 ?_
  refine lv_aload_n hx hb dX7_bestAt_4 rfl (lv_at hl 0 rfl) ?_
  obtain ⟨r_5, e_5, h⟩ := bnd_of h
  refine callP (W.runV (As := []) C.1 (cM_all e_5) (cwV 0 hts gX7_bestAt_X7_all rfl rfl rfl (by decide +kernel) ⟨by decide, by decide⟩) (mPreR C.2 hP _) rfl rfl hl.1 rfl (lv_room (Nat.le_of_ble_eq_true rfl)) dX7_bestAt_5 ⟨Nat.zero_le _, Nat.zero_le _⟩) ?_
  obtain ⟨b_8, h⟩ := chk_of h
  refine mL_16 C hP b_8 dX7_bestAt_8 ?_
  refine lv_istore_n (lv' := [(2, .int (σ.2.2.1 16 r_5.toNatClampNeg)), (0, .ref (ρ 40)), (1, .int x1)]) hx hb dX7_bestAt_9 rfl hl (by decide) rfl (fun ls hl => ?_)
  refine lv_iload_n hx hb dX7_bestAt_10 rfl (lv_at hl 0 rfl) ?_
  refine lv_istore_n (lv' := [(3, .int (σ.2.2.1 16 r_5.toNatClampNeg)), (2, .int (σ.2.2.1 16 r_5.toNatClampNeg)), (0, .ref (ρ 40)), (1, .int x1)]) hx hb dX7_bestAt_11 rfl hl (by decide) rfl (fun ls hl => ?_)
  exact wM_bestAt_L12 C hr hlk hP _ _ _ _ _ h (lv_sub hl [2, 3, 1, 0] rfl)
def fM_isPoint (N : Nat) (σ : MSt) (x1 : Int32) : Option (Int32) := (if x1 < 0 then some (0 : Int32) else (if (32 : Int32) < x1 then some (0 : Int32) else some (1 : Int32)))
set_option maxRecDepth 100000 in
set_option maxHeartbeats 4000000 in
theorem cM_isPoint {l : Launch} {D : va_G} {κ : Nat → ClassId} {ρ : Nat → Nat} {N : Nat} {σ : MSt} {x1 : Int32} {r : Int32} (h : fM_isPoint N σ x1 = some r) : Met l yX7_isPoint wsX7_isPoint ({ frames := 0, cells := 0, slots := 0, locals := 0 } : Room) (va_Pc [.ref (ρ 40), .int x1] (PR D κ ρ σ)) (PU (some (.int r))) 0 0 (fun _ => False) := by
  refine mMetR (ret := (some .boolean)) (by decide) rfl rfl (Nat.le_of_ble_eq_true rfl) ?_
  intro p e s m below meth c ls C hr hlk hP hl
  have hl : lv_has ls 2 [(0, .ref (ρ 40)), (1, .int x1)] := hl
  unfold fM_isPoint at h
  have hx := C.1.1
  have hb := C.1.2.1
  have hts := C.1.2.2.2.2
  have hown := C.1.2.2.2.1
  refine lv_iload_n hx hb dX7_isPoint_0 rfl (lv_at hl 1 rfl) ?_
  refine lv_if_lt (tgt := 14) hx hb dX7_isPoint_1 (by decide) (fun c_1 => ?_) (fun c_1 => ?_)
  · have h := zz_pos c_1 h
    refine lv_iconst (v := (0 : Int32)) hx hb dX7_isPoint_14 (by decide) ?_
    exact W.zret (ty := .boolean) hx hb hr (by decide +kernel) (fun t ht hW => ⟨by rw [some_of h], ht⟩) (fun _ h => by cases h) dX7_isPoint_15
  · have h := zz_neg c_1 h
    refine lv_iload_n hx hb dX7_isPoint_4 rfl (lv_at hl 1 rfl) ?_
    refine lv_bipush (v := (32 : Int32)) hx hb dX7_isPoint_5 (by decide) ?_
    refine lv_icmp_gt (tgt := 14) hx hb dX7_isPoint_7 (by decide) (fun c_7 => ?_) (fun c_7 => ?_)
    · have h := zz_pos c_7 h
      refine lv_iconst (v := (0 : Int32)) hx hb dX7_isPoint_14 (by decide) ?_
      exact W.zret (ty := .boolean) hx hb hr (by decide +kernel) (fun t ht hW => ⟨by rw [some_of h], ht⟩) (fun _ h => by cases h) dX7_isPoint_15
    · have h := zz_neg c_7 h
      refine lv_iconst (v := (1 : Int32)) hx hb dX7_isPoint_10 (by decide) ?_
      refine lv_goto (tgt := 15) hx hb dX7_isPoint_11 (by decide) ?_
      exact W.zret (ty := .boolean) hx hb hr (by decide +kernel) (fun t ht hW => ⟨by rw [some_of h], ht⟩) (fun _ h => by cases h) dX7_isPoint_15
def fM_best (N : Nat) (σ : MSt) (x1 : Int32) : Option (Int32 × MSt) := (fM_isPoint N σ x1).bind fun r_2 => (if r_2 = 0 then some ((-1 : Int32), σ) else (fM_isWhole N σ).bind fun r_11 => (if r_11 = 0 then some ((-3 : Int32), σ) else (fM_list N σ).bind fun r_21 => (fM_bestAt N r_21 x1).bind fun r_31 => chk r_31 5000 ((fM_all N r_21).bind fun r_36 => (fM_kept N r_21 (r_21.2.2.1 17 r_31.toNatClampNeg) r_36).bind fun r_39 => some (r_39.1, r_39.2))))
set_option maxRecDepth 100000 in
set_option maxHeartbeats 4000000 in
theorem cM_best {l : Launch} {D : va_G} {κ : Nat → ClassId} {ρ : Nat → Nat} {sz : Nat} {N : Nat} {σ : MSt} {x1 : Int32} {q : Int32 × MSt} (h : fM_best N σ x1 = some q) : Met l yX7_best wsX7_best ({ frames := 5, cells := 0, slots := 0, locals := 117 } : Room) (va_Pc [.ref (ρ 40), .int x1] (PM D κ ρ sz σ)) (QM D κ ρ sz q.2 (some (.int q.1))) 0 0 (AM ρ sz) := by
  refine mMetM (ret := (some .int)) (by decide) rfl rfl (Nat.le_of_ble_eq_true rfl) ?_
  intro p e s m below meth c ls C hr hlk hD hP hl
  have hS : va_S (AM ρ s.heap.size) s.heap s.heap [] := va_S.rf
  have hl : lv_has ls 2 [(0, .ref (ρ 40)), (1, .int x1)] := hl
  unfold fM_best at h
  have hx := C.1.1
  have hb := C.1.2.1
  have hts := C.1.2.2.2.2
  have hown := C.1.2.2.2.1
  have k_63 := hts (.fieldLink RX7 63 "PlanCabinetModel" "code" "[I") (by decide +kernel)
  have in_7 : ∀ w ∈ wsX70, w ∈ wsX7_best := by decide +kernel
  refine lv_aload_n hx hb dX7_best_0 rfl (lv_at hl 0 rfl) ?_
  refine lv_iload_n hx hb dX7_best_1 rfl (lv_at hl 1 rfl) ?_
  obtain ⟨r_2, e_2, h⟩ := bnd_of h
  refine callP (W.runV (As := [.int x1]) C.1 (cM_isPoint e_2) (cwV 1 hts gX7_best_X7_isPoint rfl rfl rfl (by decide +kernel) ⟨by decide, by decide⟩) (mPreR C.2 hP _) rfl rfl hl.1 rfl (lv_room (Nat.le_of_ble_eq_true rfl)) dX7_best_2 ⟨Nat.zero_le _, Nat.zero_le _⟩) ?_
  refine lv_if_ne (tgt := 10) hx hb dX7_best_5 (by decide) (fun c_5 => ?_) (fun c_5 => ?_)
  · have h := zz_neg c_5 h
    refine lv_aload_n hx hb dX7_best_10 rfl (lv_at hl 0 rfl) ?_
    obtain ⟨r_11, e_11, h⟩ := bnd_of h
    refine callP (W.runV (As := []) C.1 (cM_isWhole e_11) (cwV 0 hts gX7_best_X7_isWhole rfl rfl rfl (by decide +kernel) ⟨by decide, by decide⟩) (mPreR C.2 hP _) rfl rfl hl.1 rfl (lv_room (Nat.le_of_ble_eq_true rfl)) dX7_best_11 ⟨Nat.zero_le _, Nat.zero_le _⟩) ?_
    refine lv_if_ne (tgt := 20) hx hb dX7_best_14 (by decide) (fun c_14 => ?_) (fun c_14 => ?_)
    · have h := zz_neg c_14 h
      refine lv_aload_n hx hb dX7_best_20 rfl (lv_at hl 0 rfl) ?_
      obtain ⟨r_21, e_21, h⟩ := bnd_of h
      refine mCall (va_runV (As := []) C.1 (cM_list e_21) (cwV 0 hts gX7_best_X7_list rfl rfl rfl (by decide +kernel) ⟨by decide, by decide⟩) (mPreM C.2 hP hD _) rfl rfl hl.1 rfl (lv_room (Nat.le_of_ble_eq_true rfl)) dX7_best_21 ⟨Nat.zero_le _, Nat.zero_le _⟩) hS hD (fun _ h => Or.inr h) (fun H locs hP hS => ?_)
      refine lv_aload_n hx hb dX7_best_24 rfl (lv_at hl 0 rfl) ?_
      refine lv_aload_n hx hb dX7_best_25 rfl (lv_at hl 0 rfl) ?_
      refine mG_17 C in_7 hP k_63 dX7_best_26 ?_
      refine lv_aload_n hx hb dX7_best_29 rfl (lv_at hl 0 rfl) ?_
      refine lv_iload_n hx hb dX7_best_30 rfl (lv_at hl 1 rfl) ?_
      obtain ⟨r_31, e_31, h⟩ := bnd_of h
      refine callP (W.runV (As := [.int x1]) C.1 (cM_bestAt e_31) (cwV 1 hts gX7_best_X7_bestAt rfl rfl rfl (by decide +kernel) ⟨by decide, by decide⟩) (mPreR C.2 hP _) rfl rfl hl.1 rfl (lv_room (Nat.le_of_ble_eq_true rfl)) dX7_best_31 ⟨Nat.zero_le _, Nat.zero_le _⟩) ?_
      obtain ⟨b_34, h⟩ := chk_of h
      refine mL_17 C hP b_34 dX7_best_34 ?_
      refine lv_aload_n hx hb dX7_best_35 rfl (lv_at hl 0 rfl) ?_
      obtain ⟨r_36, e_36, h⟩ := bnd_of h
      refine callP (W.runV (As := []) C.1 (cM_all e_36) (cwV 0 hts gX7_best_X7_all rfl rfl rfl (by decide +kernel) ⟨by decide, by decide⟩) (mPreR C.2 hP _) rfl rfl hl.1 rfl (lv_room (Nat.le_of_ble_eq_true rfl)) dX7_best_36 ⟨Nat.zero_le _, Nat.zero_le _⟩) ?_
      obtain ⟨r_39, e_39, h⟩ := bnd_of h
      refine mCall (va_runV (As := [.int (r_21.2.2.1 17 r_31.toNatClampNeg), .int r_36]) C.1 (cM_kept e_39) (cwV 2 hts gX7_best_X7_kept rfl rfl rfl (by decide +kernel) ⟨by decide, by decide⟩) (mPreM C.2 hP hD _) rfl rfl hl.1 rfl (lv_room (Nat.le_of_ble_eq_true rfl)) dX7_best_39 ⟨Nat.zero_le _, Nat.zero_le _⟩) hS hD (fun _ h => Or.inr h) (fun H locs hP hS => ?_)
      exact W.iret hx hb hr (fun t ht hW => ⟨by rw [← some_of h], by rw [ht, ← some_of h]; exact hP, hS.F ht⟩) hS.2.2 dX7_best_42
    · have h := zz_pos c_14 h
      refine lv_bipush (v := (-3 : Int32)) hx hb dX7_best_17 (by decide) ?_
      exact W.iret hx hb hr (fun t ht hW => ⟨by rw [← some_of h], by rw [ht, ← some_of h]; exact hP, hS.F ht⟩) hS.2.2 dX7_best_19
  · have h := zz_pos c_5 h
    refine lv_iconst (v := (-1 : Int32)) hx hb dX7_best_8 (by decide) ?_
    exact W.iret hx hb hr (fun t ht hW => ⟨by rw [← some_of h], by rw [ht, ← some_of h]; exact hP, hS.F ht⟩) hS.2.2 dX7_best_9
def fM_divisor_L6 (N : Nat) (σ : MSt) : Nat → Int64 → Int64 → Option (Int64)
  | 0, _, _ => none
  | n + 1, x5, x7 => (if (lg_cmp x7 (0 : Int64)) = 0 then some x5 else nz64 x7 (fM_divisor_L6 N σ n x7 (x5 - x5 / x7 * x7)))
def fM_divisor (N : Nat) (σ : MSt) (x1 : Int64) (x3 : Int64) : Option (Int64) := fM_divisor_L6 N σ N x1 x3
set_option maxRecDepth 100000 in
set_option maxHeartbeats 4000000 in
theorem wM_divisor_L6 {p : Program} {l : Launch} {e : Env} {s : State} {m : MethodId} {args : Array Value} {below : List Frame} {meth : Method} {c : Code} {D : va_G} {κ : Nat → ClassId} {ρ : Nat → Nat} {σ : MSt} (C : MC p m c cX7_divisor 11 s args wsX7_divisor D κ) (hr : meth.sig.returnType = (some .long)) (hlk : meth.locks = false) (hP : va_P D vwCl (cellsM κ ρ σ) s.heap) {N : Nat} {r : Int64} : ∀ (n : Nat) (x5 : Int64) (x7 : Int64) (ls : Array Slot), fM_divisor_L6 N σ n x5 x7 = some r → lv_has ls 11 [(5, .long x5), (7, .long x7)] → W p l e ({ frames := 0, cells := 0, slots := 0, locals := 0 } : Room) s m args below meth c s.heap [] 0 0 (MQ below (PU (some (.long r))) args s 0 0 (fun _ => False)) (F0 m 6 ls []) := by
  have hx := C.1.1
  have hb := C.1.2.1
  have hts := C.1.2.2.2.2
  have hown := C.1.2.2.2.1
  intro n
  induction n with
  | zero =>
    intro x5 x7 ls h hl
    rw [fM_divisor_L6] at h
    cases h
  | succ n ih =>
    intro x5 x7 ls h hl
    rw [fM_divisor_L6] at h
    refine lv_lload hx hb dX7_divisor_6 (lv_at hl 1 rfl) ?_
    refine lv_lconst (v := (0 : Int64)) hx hb dX7_divisor_8 (by decide) ?_
    refine W.lcmp hx hb dX7_divisor_9 ?_
    refine lv_if_eq (tgt := 31) hx hb dX7_divisor_10 (by decide) (fun c_10 => ?_) (fun c_10 => ?_)
    · have h := zz_pos c_10 h
      refine lv_lload hx hb dX7_divisor_31 (lv_at hl 0 rfl) ?_
      exact W.lret hx hb hr (fun t ht hW => ⟨by rw [some_of h], ht⟩) (fun _ h => by cases h) dX7_divisor_33
    · have h := zz_neg c_10 h
      refine lv_lload hx hb dX7_divisor_13 (lv_at hl 0 rfl) ?_
      refine lv_lload hx hb dX7_divisor_15 (lv_at hl 1 rfl) ?_
      obtain ⟨b_17, h⟩ := nz64_of h
      refine lv_lrem hx hb dX7_divisor_17 b_17 ?_
      refine lv_lstore (lv' := [(9, .long (x5 - x5 / x7 * x7)), (5, .long x5), (7, .long x7)]) hx hb dX7_divisor_18 hl (by decide) rfl (fun ls hl => ?_)
      refine lv_lload hx hb dX7_divisor_20 (lv_at hl 2 rfl) ?_
      refine lv_lstore (lv' := [(5, .long x7), (9, .long (x5 - x5 / x7 * x7)), (7, .long x7)]) hx hb dX7_divisor_22 hl (by decide) rfl (fun ls hl => ?_)
      refine lv_lload hx hb dX7_divisor_24 (lv_at hl 1 rfl) ?_
      refine lv_lstore (lv' := [(7, .long (x5 - x5 / x7 * x7)), (5, .long x7), (9, .long (x5 - x5 / x7 * x7))]) hx hb dX7_divisor_26 hl (by decide) rfl (fun ls hl => ?_)
      refine lv_goto (tgt := 6) hx hb dX7_divisor_28 (by decide) ?_
      exact ih _ _ _ h (lv_sub hl [1, 0] rfl)
set_option maxRecDepth 100000 in
set_option maxHeartbeats 4000000 in
theorem cM_divisor {l : Launch} {D : va_G} {κ : Nat → ClassId} {ρ : Nat → Nat} {N : Nat} {σ : MSt} {x1 : Int64} {x3 : Int64} {r : Int64} (h : fM_divisor N σ x1 x3 = some r) : Met l yX7_divisor wsX7_divisor ({ frames := 0, cells := 0, slots := 0, locals := 0 } : Room) (va_Pc [.ref (ρ 40), .long x1, .long x3] (PR D κ ρ σ)) (PU (some (.long r))) 0 0 (fun _ => False) := by
  refine mMetR (ret := (some .long)) (by decide) rfl rfl (Nat.le_of_ble_eq_true rfl) ?_
  intro p e s m below meth c ls C hr hlk hP hl
  have hl : lv_has ls 11 [(0, .ref (ρ 40)), (1, .long x1), (3, .long x3)] := hl
  unfold fM_divisor at h
  have hx := C.1.1
  have hb := C.1.2.1
  have hts := C.1.2.2.2.2
  have hown := C.1.2.2.2.1
  refine lv_lload_n hx hb dX7_divisor_0 rfl (lv_at hl 1 rfl) ?_
  refine lv_lstore (lv' := [(5, .long x1), (0, .ref (ρ 40)), (1, .long x1), (3, .long x3)]) hx hb dX7_divisor_1 hl (by decide) rfl (fun ls hl => ?_)
  refine lv_lload_n hx hb dX7_divisor_3 rfl (lv_at hl 3 rfl) ?_
  refine lv_lstore (lv' := [(7, .long x3), (5, .long x1), (0, .ref (ρ 40)), (1, .long x1), (3, .long x3)]) hx hb dX7_divisor_4 hl (by decide) rfl (fun ls hl => ?_)
  exact wM_divisor_L6 C hr hlk hP _ _ _ _ h (lv_sub hl [1, 0] rfl)
def fM_span_L21 (N : Nat) (K126 : MSt → Int32 → Option (MSt)) : Nat → MSt → Int32 → Int32 → Option (MSt)
  | 0, _, _, _ => none
  | n + 1, σ, x1, x2 => (if (σ.1 22) ≤ x2 then K126 σ x1 else chk x2 5000 (chk x1 5000 ((if (lg_cmp (σ.2.2.2 20 x2.toNatClampNeg) (σ.2.2.2 20 x1.toNatClampNeg)) < 0 then (if (1 : Int32) = 0 then fM_span_L21 N K126 n σ x1 (x2 + 1) else fM_span_L21 N K126 n σ x2 (x2 + 1)) else chk x2 5000 (chk x1 5000 ((if (lg_cmp (σ.2.2.2 20 x2.toNatClampNeg) (σ.2.2.2 20 x1.toNatClampNeg)) = 0 then chk x2 5000 (chk x1 5000 ((if (lg_cmp (σ.2.2.2 21 x2.toNatClampNeg) (σ.2.2.2 21 x1.toNatClampNeg)) < 0 then (if (1 : Int32) = 0 then fM_span_L21 N K126 n σ x1 (x2 + 1) else fM_span_L21 N K126 n σ x2 (x2 + 1)) else chk x2 5000 (chk x1 5000 ((if (lg_cmp (σ.2.2.2 21 x2.toNatClampNeg) (σ.2.2.2 21 x1.toNatClampNeg)) = 0 then chk x2 5000 (chk x1 5000 ((if (σ.2.2.1 17 x1.toNatClampNeg) ≤ (σ.2.2.1 17 x2.toNatClampNeg) then (if (0 : Int32) = 0 then fM_span_L21 N K126 n σ x1 (x2 + 1) else fM_span_L21 N K126 n σ x2 (x2 + 1)) else (if (1 : Int32) = 0 then fM_span_L21 N K126 n σ x1 (x2 + 1) else fM_span_L21 N K126 n σ x2 (x2 + 1))))) else (if (0 : Int32) = 0 then fM_span_L21 N K126 n σ x1 (x2 + 1) else fM_span_L21 N K126 n σ x2 (x2 + 1)))))))) else (if (0 : Int32) = 0 then fM_span_L21 N K126 n σ x1 (x2 + 1) else fM_span_L21 N K126 n σ x2 (x2 + 1)))))))))
def fM_span_J382 (N : Nat) (K216 : MSt → Int32 → Int64 → Int64 → Int32 → Int32 → Option (MSt)) (σ : MSt) (x1 : Int32) (x2 : Int64) (x4 : Int64) (x8 : Int32) (x9 : Int32) (x10 : Int64) (x12 : Int64) (x14 : Int32) : Option (MSt) := (if x14 = 0 then K216 σ x1 x2 x4 x8 (x9 + 1) else K216 σ x1 x10 x12 x9 (x9 + 1))
def fM_span_J380 (N : Nat) (K216 : MSt → Int32 → Int64 → Int64 → Int32 → Int32 → Option (MSt)) (σ : MSt) (x1 : Int32) (x2 : Int64) (x4 : Int64) (x8 : Int32) (x9 : Int32) (x10 : Int64) (x12 : Int64) (y0 : Int32) : Option (MSt) := fM_span_J382 N (fun (σ : MSt) (x1 : Int32) (x2 : Int64) (x4 : Int64) (x8 : Int32) (x9 : Int32) => K216 σ x1 x2 x4 x8 x9) σ x1 x2 x4 x8 x9 x10 x12 y0
def fM_span_J375 (N : Nat) (K216 : MSt → Int32 → Int64 → Int64 → Int32 → Int32 → Option (MSt)) (σ : MSt) (x1 : Int32) (x2 : Int64) (x4 : Int64) (x8 : Int32) (x9 : Int32) (x10 : Int64) (x12 : Int64) : Option (MSt) := fM_span_J380 N (fun (σ : MSt) (x1 : Int32) (x2 : Int64) (x4 : Int64) (x8 : Int32) (x9 : Int32) => K216 σ x1 x2 x4 x8 x9) σ x1 x2 x4 x8 x9 x10 x12 (1 : Int32)
def fM_span_J379 (N : Nat) (K216 : MSt → Int32 → Int64 → Int64 → Int32 → Int32 → Option (MSt)) (σ : MSt) (x1 : Int32) (x2 : Int64) (x4 : Int64) (x8 : Int32) (x9 : Int32) (x10 : Int64) (x12 : Int64) : Option (MSt) := fM_span_J380 N (fun (σ : MSt) (x1 : Int32) (x2 : Int64) (x4 : Int64) (x8 : Int32) (x9 : Int32) => K216 σ x1 x2 x4 x8 x9) σ x1 x2 x4 x8 x9 x10 x12 (0 : Int32)
def fM_span_J302 (N : Nat) (K216 : MSt → Int32 → Int64 → Int64 → Int32 → Int32 → Option (MSt)) (σ : MSt) (x1 : Int32) (x2 : Int64) (x4 : Int64) (x8 : Int32) (x9 : Int32) (x10 : Int64) (x12 : Int64) (y0 : Int32) : Option (MSt) := (if x8 < 0 then fM_span_J382 N (fun (σ : MSt) (x1 : Int32) (x2 : Int64) (x4 : Int64) (x8 : Int32) (x9 : Int32) => K216 σ x1 x2 x4 x8 x9) σ x1 x2 x4 x8 x9 x10 x12 y0 else (if (lg_cmp (x10 * x4) (x2 * x12)) = 0 then chk x9 5000 (chk x8 5000 ((if (lg_cmp (σ.2.2.2 21 x9.toNatClampNeg) (σ.2.2.2 21 x8.toNatClampNeg)) < 0 then fM_span_J375 N (fun (σ : MSt) (x1 : Int32) (x2 : Int64) (x4 : Int64) (x8 : Int32) (x9 : Int32) => K216 σ x1 x2 x4 x8 x9) σ x1 x2 x4 x8 x9 x10 x12 else chk x9 5000 (chk x8 5000 ((if (lg_cmp (σ.2.2.2 21 x9.toNatClampNeg) (σ.2.2.2 21 x8.toNatClampNeg)) = 0 then chk x9 5000 (chk x8 5000 ((if (σ.2.2.1 17 x8.toNatClampNeg) ≤ (σ.2.2.1 17 x9.toNatClampNeg) then fM_span_J379 N (fun (σ : MSt) (x1 : Int32) (x2 : Int64) (x4 : Int64) (x8 : Int32) (x9 : Int32) => K216 σ x1 x2 x4 x8 x9) σ x1 x2 x4 x8 x9 x10 x12 else fM_span_J375 N (fun (σ : MSt) (x1 : Int32) (x2 : Int64) (x4 : Int64) (x8 : Int32) (x9 : Int32) => K216 σ x1 x2 x4 x8 x9) σ x1 x2 x4 x8 x9 x10 x12))) else fM_span_J379 N (fun (σ : MSt) (x1 : Int32) (x2 : Int64) (x4 : Int64) (x8 : Int32) (x9 : Int32) => K216 σ x1 x2 x4 x8 x9) σ x1 x2 x4 x8 x9 x10 x12)))))) else fM_span_J382 N (fun (σ : MSt) (x1 : Int32) (x2 : Int64) (x4 : Int64) (x8 : Int32) (x9 : Int32) => K216 σ x1 x2 x4 x8 x9) σ x1 x2 x4 x8 x9 x10 x12 y0))
def fM_span_J297 (N : Nat) (K216 : MSt → Int32 → Int64 → Int64 → Int32 → Int32 → Option (MSt)) (σ : MSt) (x1 : Int32) (x2 : Int64) (x4 : Int64) (x8 : Int32) (x9 : Int32) (x10 : Int64) (x12 : Int64) : Option (MSt) := fM_span_J302 N (fun (σ : MSt) (x1 : Int32) (x2 : Int64) (x4 : Int64) (x8 : Int32) (x9 : Int32) => K216 σ x1 x2 x4 x8 x9) σ x1 x2 x4 x8 x9 x10 x12 (1 : Int32)
def fM_span_L216 (N : Nat) (K407 : MSt → Int64 → Int64 → Int32 → Option (MSt)) : Nat → MSt → Int32 → Int64 → Int64 → Int32 → Int32 → Option (MSt)
  | 0, _, _, _, _, _, _ => none
  | n + 1, σ, x1, x2, x4, x8, x9 => (if (σ.1 22) ≤ x9 then K407 σ x2 x4 x8 else chk x9 5000 (chk x1 5000 (chk x1 5000 (chk x9 5000 ((if (lg_cmp ((σ.2.2.2 21 x1.toNatClampNeg) - (σ.2.2.2 21 x9.toNatClampNeg)) (0 : Int64)) ≤ 0 then fM_span_L216 N K407 n σ x1 x2 x4 x8 (x9 + 1) else (if (lg_cmp ((σ.2.2.2 20 x9.toNatClampNeg) - (σ.2.2.2 20 x1.toNatClampNeg)) ((4 : Int64) * ((σ.2.2.2 21 x1.toNatClampNeg) - (σ.2.2.2 21 x9.toNatClampNeg)))) < 0 then (if x8 < 0 then fM_span_J297 N (fun (σ : MSt) (x1 : Int32) (x2 : Int64) (x4 : Int64) (x8 : Int32) (x9 : Int32) => fM_span_L216 N K407 n σ x1 x2 x4 x8 x9) σ x1 x2 x4 x8 x9 ((σ.2.2.2 20 x9.toNatClampNeg) - (σ.2.2.2 20 x1.toNatClampNeg)) ((σ.2.2.2 21 x1.toNatClampNeg) - (σ.2.2.2 21 x9.toNatClampNeg)) else (if 0 ≤ (lg_cmp (((σ.2.2.2 20 x9.toNatClampNeg) - (σ.2.2.2 20 x1.toNatClampNeg)) * x4) (x2 * ((σ.2.2.2 21 x1.toNatClampNeg) - (σ.2.2.2 21 x9.toNatClampNeg)))) then fM_span_J302 N (fun (σ : MSt) (x1 : Int32) (x2 : Int64) (x4 : Int64) (x8 : Int32) (x9 : Int32) => fM_span_L216 N K407 n σ x1 x2 x4 x8 x9) σ x1 x2 x4 x8 x9 ((σ.2.2.2 20 x9.toNatClampNeg) - (σ.2.2.2 20 x1.toNatClampNeg)) ((σ.2.2.2 21 x1.toNatClampNeg) - (σ.2.2.2 21 x9.toNatClampNeg)) (0 : Int32) else fM_span_J297 N (fun (σ : MSt) (x1 : Int32) (x2 : Int64) (x4 : Int64) (x8 : Int32) (x9 : Int32) => fM_span_L216 N K407 n σ x1 x2 x4 x8 x9) σ x1 x2 x4 x8 x9 ((σ.2.2.2 20 x9.toNatClampNeg) - (σ.2.2.2 20 x1.toNatClampNeg)) ((σ.2.2.2 21 x1.toNatClampNeg) - (σ.2.2.2 21 x9.toNatClampNeg)))) else fM_span_L216 N K407 n σ x1 x2 x4 x8 (x9 + 1))))))))
def fM_span_J163 (N : Nat) (K131 : MSt → Int32 → Int64 → Int64 → Option (MSt)) (σ : MSt) (x1 : Int32) (x2 : Int64) (x4 : Int64) (y0 : Int64) : Option (MSt) := nz64 y0 (chk (σ.1 26) 5000 (nz64 y0 (chk ((sB σ 24 (σ.1 26).toNatClampNeg (x2 / y0)).1 26) 5000 ((fM_all N (sI (sB (sB σ 24 (σ.1 26).toNatClampNeg (x2 / y0)) 25 ((sB σ 24 (σ.1 26).toNatClampNeg (x2 / y0)).1 26).toNatClampNeg (x4 / y0)) 26 (((sB (sB σ 24 (σ.1 26).toNatClampNeg (x2 / y0)) 25 ((sB σ 24 (σ.1 26).toNatClampNeg (x2 / y0)).1 26).toNatClampNeg (x4 / y0)).1 26) + (1 : Int32)))).bind fun r_210 => chk r_210 17 (fM_span_L216 N (fun (σ : MSt) (x2 : Int64) (x4 : Int64) (x8 : Int32) => K131 σ x8 x2 x4) N (sI (sB (sB σ 24 (σ.1 26).toNatClampNeg (x2 / y0)) 25 ((sB σ 24 (σ.1 26).toNatClampNeg (x2 / y0)).1 26).toNatClampNeg (x4 / y0)) 26 (((sB (sB σ 24 (σ.1 26).toNatClampNeg (x2 / y0)) 25 ((sB σ 24 (σ.1 26).toNatClampNeg (x2 / y0)).1 26).toNatClampNeg (x4 / y0)).1 26) + (1 : Int32))) x1 x2 x4 (-1 : Int32) ((sI (sB (sB σ 24 (σ.1 26).toNatClampNeg (x2 / y0)) 25 ((sB σ 24 (σ.1 26).toNatClampNeg (x2 / y0)).1 26).toNatClampNeg (x4 / y0)) 26 (((sB (sB σ 24 (σ.1 26).toNatClampNeg (x2 / y0)) 25 ((sB σ 24 (σ.1 26).toNatClampNeg (x2 / y0)).1 26).toNatClampNeg (x4 / y0)).1 26) + (1 : Int32))).2.2.1 16 r_210.toNatClampNeg))))))
def fM_span_L131 (N : Nat) : Nat → MSt → Int32 → Int64 → Int64 → Option (MSt)
  | 0, _, _, _, _ => none
  | n + 1, σ, x1, x2, x4 => (if x1 < 0 then some σ else chk (σ.1 26) 5000 ((if (lg_cmp x2 (0 : Int64)) = 0 then fM_span_J163 N (fun (σ : MSt) (x1 : Int32) (x2 : Int64) (x4 : Int64) => fM_span_L131 N n σ x1 x2 x4) (sA σ 23 (σ.1 26).toNatClampNeg x1) x1 x2 x4 x4 else (fM_divisor N (sA σ 23 (σ.1 26).toNatClampNeg x1) x2 x4).bind fun r_160 => fM_span_J163 N (fun (σ : MSt) (x1 : Int32) (x2 : Int64) (x4 : Int64) => fM_span_L131 N n σ x1 x2 x4) (sA σ 23 (σ.1 26).toNatClampNeg x1) x1 x2 x4 r_160)))
def fM_span (N : Nat) (σ : MSt) : Option (MSt) := (fM_list N σ).bind fun r_1 => (fM_all N (sI r_1 26 (0 : Int32))).bind fun r_14 => chk r_14 17 (fM_span_L21 N (fun (σ : MSt) (x1 : Int32) => fM_span_L131 N N σ x1 (0 : Int64) (1 : Int64)) N (sI r_1 26 (0 : Int32)) ((sI r_1 26 (0 : Int32)).2.2.1 16 r_14.toNatClampNeg) ((sI r_1 26 (0 : Int32)).2.2.1 16 r_14.toNatClampNeg))
set_option maxRecDepth 100000 in
set_option maxHeartbeats 4000000 in
theorem wM_span_L21 {p : Program} {l : Launch} {e : Env} {s : State} {m : MethodId} {args : Array Value} {below : List Frame} {meth : Method} {c : Code} {D : va_G} {κ : Nat → ClassId} {ρ : Nat → Nat} (C : MC p m c cX7_span 15 s args wsX7_span D κ) (hr : meth.sig.returnType = none) (hlk : meth.locks = false) (hD : DM (AM ρ s.heap.size) ρ) {N : Nat} {q : MSt} {K126 : MSt → Int32 → Option (MSt)} : ∀ (n : Nat) (σ : MSt) (x1 : Int32) (x2 : Int32) (H : Heap) (locs : List Loc) (ls : Array Slot), fM_span_L21 N K126 n σ x1 x2 = some q → va_P D vwCl (cellsM κ ρ σ) H → va_S (AM ρ s.heap.size) s.heap H locs → lv_has ls 15 [(0, .ref (ρ 40)), (1, .int x1), (2, .int x2)] → (∀ (σ : MSt) (x1 : Int32) (H : Heap) (locs : List Loc) (ls : Array Slot), K126 σ x1 = some q → va_P D vwCl (cellsM κ ρ σ) H → va_S (AM ρ s.heap.size) s.heap H locs → lv_has ls 15 [(0, .ref (ρ 40)), (1, .int x1)] → W p l e ({ frames := 5, cells := 0, slots := 0, locals := 117 } : Room) s m args below meth c H locs 0 0 (MQ below (QM D κ ρ s.heap.size q none) args s 0 0 (AM ρ s.heap.size)) (F0 m 126 ls [])) → W p l e ({ frames := 5, cells := 0, slots := 0, locals := 117 } : Room) s m args below meth c H locs 0 0 (MQ below (QM D κ ρ s.heap.size q none) args s 0 0 (AM ρ s.heap.size)) (F0 m 21 ls []) := by
  have hx := C.1.1
  have hb := C.1.2.1
  have hts := C.1.2.2.2.2
  have hown := C.1.2.2.2.1
  have k_63 := hts (.fieldLink RX7 63 "PlanCabinetModel" "code" "[I") (by decide +kernel)
  have k_72 := hts (.fieldLink RX7 72 "PlanCabinetModel" "priceA" "[J") (by decide +kernel)
  have k_76 := hts (.fieldLink RX7 76 "PlanCabinetModel" "priceB" "[J") (by decide +kernel)
  have k_79 := hts (.fieldLink RX7 79 "PlanCabinetModel" "listed" "I") (by decide +kernel)
  have in_7 : ∀ w ∈ wsX70, w ∈ wsX7_span := by decide +kernel
  intro n
  induction n with
  | zero =>
    intro σ x1 x2 H locs ls h hP hS hl hK126
    rw [fM_span_L21] at h
    cases h
  | succ n ih =>
    intro σ x1 x2 H locs ls h hP hS hl hK126
    rw [fM_span_L21] at h
    refine lv_iload_n hx hb dX7_span_21 rfl (lv_at hl 2 rfl) ?_
    refine lv_aload_n hx hb dX7_span_22 rfl (lv_at hl 0 rfl) ?_
    refine mG_22 C in_7 hP k_79 dX7_span_23 ?_
    refine lv_icmp_ge (tgt := 126) hx hb dX7_span_26 (by decide) (fun c_26 => ?_) (fun c_26 => ?_)
    · have h := zz_pos c_26 h
      exact hK126 _ _ _ _ _ h hP hS (lv_sub hl [0, 1] rfl)
    · have h := zz_neg c_26 h
      refine lv_aload_n hx hb dX7_span_29 rfl (lv_at hl 0 rfl) ?_
      refine mG_20 C in_7 hP k_72 dX7_span_30 ?_
      refine lv_iload_n hx hb dX7_span_33 rfl (lv_at hl 2 rfl) ?_
      obtain ⟨b_34, h⟩ := chk_of h
      refine mL_20 C hP b_34 dX7_span_34 ?_
      refine lv_aload_n hx hb dX7_span_35 rfl (lv_at hl 0 rfl) ?_
      refine mG_20 C in_7 hP k_72 dX7_span_36 ?_
      refine lv_iload_n hx hb dX7_span_39 rfl (lv_at hl 1 rfl) ?_
      obtain ⟨b_40, h⟩ := chk_of h
      refine mL_20 C hP b_40 dX7_span_40 ?_
      refine W.lcmp hx hb dX7_span_41 ?_
      refine lv_if_lt (tgt := 108) hx hb dX7_span_42 (by decide) (fun c_42 => ?_) (fun c_42 => ?_)
      · have h := zz_pos c_42 h
        refine lv_iconst (v := (1 : Int32)) hx hb dX7_span_108 (by decide) ?_
        refine lv_goto (tgt := 113) hx hb dX7_span_109 (by decide) ?_
        refine lv_istore_n (lv' := [(3, .int (1 : Int32)), (0, .ref (ρ 40)), (1, .int x1), (2, .int x2)]) hx hb dX7_span_113 rfl hl (by decide) rfl (fun ls hl => ?_)
        refine lv_iload_n hx hb dX7_span_114 rfl (lv_at hl 0 rfl) ?_
        refine lv_if_eq (tgt := 120) hx hb dX7_span_115 (by decide) (fun c_115 => ?_) (fun c_115 => ?_)
        · have h := zz_pos c_115 h
          refine lv_iinc (v := (x2 + 1)) (lv' := [(2, .int (x2 + 1)), (3, .int (1 : Int32)), (0, .ref (ρ 40)), (1, .int x1)]) hx hb dX7_span_120 hl (k := 3) rfl rfl (by decide) rfl (fun ls hl => ?_)
          refine lv_goto (tgt := 21) hx hb dX7_span_123 (by decide) ?_
          exact ih _ _ _ _ _ _ h hP hS (lv_sub hl [2, 3, 0] rfl) hK126
        · have h := zz_neg c_115 h
          refine lv_iload_n hx hb dX7_span_118 rfl (lv_at hl 3 rfl) ?_
          refine lv_istore_n (lv' := [(1, .int x2), (3, .int (1 : Int32)), (0, .ref (ρ 40)), (2, .int x2)]) hx hb dX7_span_119 rfl hl (by decide) rfl (fun ls hl => ?_)
          refine lv_iinc (v := (x2 + 1)) (lv' := [(2, .int (x2 + 1)), (1, .int x2), (3, .int (1 : Int32)), (0, .ref (ρ 40))]) hx hb dX7_span_120 hl (k := 3) rfl rfl (by decide) rfl (fun ls hl => ?_)
          refine lv_goto (tgt := 21) hx hb dX7_span_123 (by decide) ?_
          exact ih _ _ _ _ _ _ h hP hS (lv_sub hl [3, 1, 0] rfl) hK126
      · have h := zz_neg c_42 h
        refine lv_aload_n hx hb dX7_span_45 rfl (lv_at hl 0 rfl) ?_
        refine mG_20 C in_7 hP k_72 dX7_span_46 ?_
        refine lv_iload_n hx hb dX7_span_49 rfl (lv_at hl 2 rfl) ?_
        obtain ⟨b_50, h⟩ := chk_of h
        refine mL_20 C hP b_50 dX7_span_50 ?_
        refine lv_aload_n hx hb dX7_span_51 rfl (lv_at hl 0 rfl) ?_
        refine mG_20 C in_7 hP k_72 dX7_span_52 ?_
        refine lv_iload_n hx hb dX7_span_55 rfl (lv_at hl 1 rfl) ?_
        obtain ⟨b_56, h⟩ := chk_of h
        refine mL_20 C hP b_56 dX7_span_56 ?_
        refine W.lcmp hx hb dX7_span_57 ?_
        refine lv_if_ne (tgt := 112) hx hb dX7_span_58 (by decide) (fun c_58 => ?_) (fun c_58 => ?_)
        · have h := zz_neg c_58 h
          refine lv_iconst (v := (0 : Int32)) hx hb dX7_span_112 (by decide) ?_
          refine lv_istore_n (lv' := [(3, .int (0 : Int32)), (0, .ref (ρ 40)), (1, .int x1), (2, .int x2)]) hx hb dX7_span_113 rfl hl (by decide) rfl (fun ls hl => ?_)
          refine lv_iload_n hx hb dX7_span_114 rfl (lv_at hl 0 rfl) ?_
          refine lv_if_eq (tgt := 120) hx hb dX7_span_115 (by decide) (fun c_115 => ?_) (fun c_115 => ?_)
          · have h := zz_pos c_115 h
            refine lv_iinc (v := (x2 + 1)) (lv' := [(2, .int (x2 + 1)), (3, .int (0 : Int32)), (0, .ref (ρ 40)), (1, .int x1)]) hx hb dX7_span_120 hl (k := 3) rfl rfl (by decide) rfl (fun ls hl => ?_)
            refine lv_goto (tgt := 21) hx hb dX7_span_123 (by decide) ?_
            exact ih _ _ _ _ _ _ h hP hS (lv_sub hl [2, 3, 0] rfl) hK126
          · have h := zz_neg c_115 h
            refine lv_iload_n hx hb dX7_span_118 rfl (lv_at hl 3 rfl) ?_
            refine lv_istore_n (lv' := [(1, .int x2), (3, .int (0 : Int32)), (0, .ref (ρ 40)), (2, .int x2)]) hx hb dX7_span_119 rfl hl (by decide) rfl (fun ls hl => ?_)
            refine lv_iinc (v := (x2 + 1)) (lv' := [(2, .int (x2 + 1)), (1, .int x2), (3, .int (0 : Int32)), (0, .ref (ρ 40))]) hx hb dX7_span_120 hl (k := 3) rfl rfl (by decide) rfl (fun ls hl => ?_)
            refine lv_goto (tgt := 21) hx hb dX7_span_123 (by decide) ?_
            exact ih _ _ _ _ _ _ h hP hS (lv_sub hl [3, 1, 0] rfl) hK126
        · have h := zz_pos c_58 h
          refine lv_aload_n hx hb dX7_span_61 rfl (lv_at hl 0 rfl) ?_
          refine mG_21 C in_7 hP k_76 dX7_span_62 ?_
          refine lv_iload_n hx hb dX7_span_65 rfl (lv_at hl 2 rfl) ?_
          obtain ⟨b_66, h⟩ := chk_of h
          refine mL_21 C hP b_66 dX7_span_66 ?_
          refine lv_aload_n hx hb dX7_span_67 rfl (lv_at hl 0 rfl) ?_
          refine mG_21 C in_7 hP k_76 dX7_span_68 ?_
          refine lv_iload_n hx hb dX7_span_71 rfl (lv_at hl 1 rfl) ?_
          obtain ⟨b_72, h⟩ := chk_of h
          refine mL_21 C hP b_72 dX7_span_72 ?_
          refine W.lcmp hx hb dX7_span_73 ?_
          refine lv_if_lt (tgt := 108) hx hb dX7_span_74 (by decide) (fun c_74 => ?_) (fun c_74 => ?_)
          · have h := zz_pos c_74 h
            refine lv_iconst (v := (1 : Int32)) hx hb dX7_span_108 (by decide) ?_
            refine lv_goto (tgt := 113) hx hb dX7_span_109 (by decide) ?_
            refine lv_istore_n (lv' := [(3, .int (1 : Int32)), (0, .ref (ρ 40)), (1, .int x1), (2, .int x2)]) hx hb dX7_span_113 rfl hl (by decide) rfl (fun ls hl => ?_)
            refine lv_iload_n hx hb dX7_span_114 rfl (lv_at hl 0 rfl) ?_
            refine lv_if_eq (tgt := 120) hx hb dX7_span_115 (by decide) (fun c_115 => ?_) (fun c_115 => ?_)
            · have h := zz_pos c_115 h
              refine lv_iinc (v := (x2 + 1)) (lv' := [(2, .int (x2 + 1)), (3, .int (1 : Int32)), (0, .ref (ρ 40)), (1, .int x1)]) hx hb dX7_span_120 hl (k := 3) rfl rfl (by decide) rfl (fun ls hl => ?_)
              refine lv_goto (tgt := 21) hx hb dX7_span_123 (by decide) ?_
              exact ih _ _ _ _ _ _ h hP hS (lv_sub hl [2, 3, 0] rfl) hK126
            · have h := zz_neg c_115 h
              refine lv_iload_n hx hb dX7_span_118 rfl (lv_at hl 3 rfl) ?_
              refine lv_istore_n (lv' := [(1, .int x2), (3, .int (1 : Int32)), (0, .ref (ρ 40)), (2, .int x2)]) hx hb dX7_span_119 rfl hl (by decide) rfl (fun ls hl => ?_)
              refine lv_iinc (v := (x2 + 1)) (lv' := [(2, .int (x2 + 1)), (1, .int x2), (3, .int (1 : Int32)), (0, .ref (ρ 40))]) hx hb dX7_span_120 hl (k := 3) rfl rfl (by decide) rfl (fun ls hl => ?_)
              refine lv_goto (tgt := 21) hx hb dX7_span_123 (by decide) ?_
              exact ih _ _ _ _ _ _ h hP hS (lv_sub hl [3, 1, 0] rfl) hK126
          · have h := zz_neg c_74 h
            refine lv_aload_n hx hb dX7_span_77 rfl (lv_at hl 0 rfl) ?_
            refine mG_21 C in_7 hP k_76 dX7_span_78 ?_
            refine lv_iload_n hx hb dX7_span_81 rfl (lv_at hl 2 rfl) ?_
            obtain ⟨b_82, h⟩ := chk_of h
            refine mL_21 C hP b_82 dX7_span_82 ?_
            refine lv_aload_n hx hb dX7_span_83 rfl (lv_at hl 0 rfl) ?_
            refine mG_21 C in_7 hP k_76 dX7_span_84 ?_
            refine lv_iload_n hx hb dX7_span_87 rfl (lv_at hl 1 rfl) ?_
            obtain ⟨b_88, h⟩ := chk_of h
            refine mL_21 C hP b_88 dX7_span_88 ?_
            refine W.lcmp hx hb dX7_span_89 ?_
            refine lv_if_ne (tgt := 112) hx hb dX7_span_90 (by decide) (fun c_90 => ?_) (fun c_90 => ?_)
            · have h := zz_neg c_90 h
              refine lv_iconst (v := (0 : Int32)) hx hb dX7_span_112 (by decide) ?_
              refine lv_istore_n (lv' := [(3, .int (0 : Int32)), (0, .ref (ρ 40)), (1, .int x1), (2, .int x2)]) hx hb dX7_span_113 rfl hl (by decide) rfl (fun ls hl => ?_)
              refine lv_iload_n hx hb dX7_span_114 rfl (lv_at hl 0 rfl) ?_
              refine lv_if_eq (tgt := 120) hx hb dX7_span_115 (by decide) (fun c_115 => ?_) (fun c_115 => ?_)
              · have h := zz_pos c_115 h
                refine lv_iinc (v := (x2 + 1)) (lv' := [(2, .int (x2 + 1)), (3, .int (0 : Int32)), (0, .ref (ρ 40)), (1, .int x1)]) hx hb dX7_span_120 hl (k := 3) rfl rfl (by decide) rfl (fun ls hl => ?_)
                refine lv_goto (tgt := 21) hx hb dX7_span_123 (by decide) ?_
                exact ih _ _ _ _ _ _ h hP hS (lv_sub hl [2, 3, 0] rfl) hK126
              · have h := zz_neg c_115 h
                refine lv_iload_n hx hb dX7_span_118 rfl (lv_at hl 3 rfl) ?_
                refine lv_istore_n (lv' := [(1, .int x2), (3, .int (0 : Int32)), (0, .ref (ρ 40)), (2, .int x2)]) hx hb dX7_span_119 rfl hl (by decide) rfl (fun ls hl => ?_)
                refine lv_iinc (v := (x2 + 1)) (lv' := [(2, .int (x2 + 1)), (1, .int x2), (3, .int (0 : Int32)), (0, .ref (ρ 40))]) hx hb dX7_span_120 hl (k := 3) rfl rfl (by decide) rfl (fun ls hl => ?_)
                refine lv_goto (tgt := 21) hx hb dX7_span_123 (by decide) ?_
                exact ih _ _ _ _ _ _ h hP hS (lv_sub hl [3, 1, 0] rfl) hK126
            · have h := zz_pos c_90 h
              refine lv_aload_n hx hb dX7_span_93 rfl (lv_at hl 0 rfl) ?_
              refine mG_17 C in_7 hP k_63 dX7_span_94 ?_
              refine lv_iload_n hx hb dX7_span_97 rfl (lv_at hl 2 rfl) ?_
              obtain ⟨b_98, h⟩ := chk_of h
              refine mL_17 C hP b_98 dX7_span_98 ?_
              refine lv_aload_n hx hb dX7_span_99 rfl (lv_at hl 0 rfl) ?_
              refine mG_17 C in_7 hP k_63 dX7_span_100 ?_
              refine lv_iload_n hx hb dX7_span_103 rfl (lv_at hl 1 rfl) ?_
              obtain ⟨b_104, h⟩ := chk_of h
              refine mL_17 C hP b_104 dX7_span_104 ?_
              refine lv_icmp_ge (tgt := 112) hx hb dX7_span_105 (by decide) (fun c_105 => ?_) (fun c_105 => ?_)
              · have h := zz_pos c_105 h
                refine lv_iconst (v := (0 : Int32)) hx hb dX7_span_112 (by decide) ?_
                refine lv_istore_n (lv' := [(3, .int (0 : Int32)), (0, .ref (ρ 40)), (1, .int x1), (2, .int x2)]) hx hb dX7_span_113 rfl hl (by decide) rfl (fun ls hl => ?_)
                refine lv_iload_n hx hb dX7_span_114 rfl (lv_at hl 0 rfl) ?_
                refine lv_if_eq (tgt := 120) hx hb dX7_span_115 (by decide) (fun c_115 => ?_) (fun c_115 => ?_)
                · have h := zz_pos c_115 h
                  refine lv_iinc (v := (x2 + 1)) (lv' := [(2, .int (x2 + 1)), (3, .int (0 : Int32)), (0, .ref (ρ 40)), (1, .int x1)]) hx hb dX7_span_120 hl (k := 3) rfl rfl (by decide) rfl (fun ls hl => ?_)
                  refine lv_goto (tgt := 21) hx hb dX7_span_123 (by decide) ?_
                  exact ih _ _ _ _ _ _ h hP hS (lv_sub hl [2, 3, 0] rfl) hK126
                · have h := zz_neg c_115 h
                  refine lv_iload_n hx hb dX7_span_118 rfl (lv_at hl 3 rfl) ?_
                  refine lv_istore_n (lv' := [(1, .int x2), (3, .int (0 : Int32)), (0, .ref (ρ 40)), (2, .int x2)]) hx hb dX7_span_119 rfl hl (by decide) rfl (fun ls hl => ?_)
                  refine lv_iinc (v := (x2 + 1)) (lv' := [(2, .int (x2 + 1)), (1, .int x2), (3, .int (0 : Int32)), (0, .ref (ρ 40))]) hx hb dX7_span_120 hl (k := 3) rfl rfl (by decide) rfl (fun ls hl => ?_)
                  refine lv_goto (tgt := 21) hx hb dX7_span_123 (by decide) ?_
                  exact ih _ _ _ _ _ _ h hP hS (lv_sub hl [3, 1, 0] rfl) hK126
              · have h := zz_neg c_105 h
                refine lv_iconst (v := (1 : Int32)) hx hb dX7_span_108 (by decide) ?_
                refine lv_goto (tgt := 113) hx hb dX7_span_109 (by decide) ?_
                refine lv_istore_n (lv' := [(3, .int (1 : Int32)), (0, .ref (ρ 40)), (1, .int x1), (2, .int x2)]) hx hb dX7_span_113 rfl hl (by decide) rfl (fun ls hl => ?_)
                refine lv_iload_n hx hb dX7_span_114 rfl (lv_at hl 0 rfl) ?_
                refine lv_if_eq (tgt := 120) hx hb dX7_span_115 (by decide) (fun c_115 => ?_) (fun c_115 => ?_)
                · have h := zz_pos c_115 h
                  refine lv_iinc (v := (x2 + 1)) (lv' := [(2, .int (x2 + 1)), (3, .int (1 : Int32)), (0, .ref (ρ 40)), (1, .int x1)]) hx hb dX7_span_120 hl (k := 3) rfl rfl (by decide) rfl (fun ls hl => ?_)
                  refine lv_goto (tgt := 21) hx hb dX7_span_123 (by decide) ?_
                  exact ih _ _ _ _ _ _ h hP hS (lv_sub hl [2, 3, 0] rfl) hK126
                · have h := zz_neg c_115 h
                  refine lv_iload_n hx hb dX7_span_118 rfl (lv_at hl 3 rfl) ?_
                  refine lv_istore_n (lv' := [(1, .int x2), (3, .int (1 : Int32)), (0, .ref (ρ 40)), (2, .int x2)]) hx hb dX7_span_119 rfl hl (by decide) rfl (fun ls hl => ?_)
                  refine lv_iinc (v := (x2 + 1)) (lv' := [(2, .int (x2 + 1)), (1, .int x2), (3, .int (1 : Int32)), (0, .ref (ρ 40))]) hx hb dX7_span_120 hl (k := 3) rfl rfl (by decide) rfl (fun ls hl => ?_)
                  refine lv_goto (tgt := 21) hx hb dX7_span_123 (by decide) ?_
                  exact ih _ _ _ _ _ _ h hP hS (lv_sub hl [3, 1, 0] rfl) hK126
set_option maxRecDepth 100000 in
set_option maxHeartbeats 4000000 in
theorem wM_span_J382 {p : Program} {l : Launch} {e : Env} {s : State} {m : MethodId} {args : Array Value} {below : List Frame} {meth : Method} {c : Code} {D : va_G} {κ : Nat → ClassId} {ρ : Nat → Nat} (C : MC p m c cX7_span 15 s args wsX7_span D κ) (hr : meth.sig.returnType = none) (hlk : meth.locks = false) (hD : DM (AM ρ s.heap.size) ρ) {N : Nat} {q : MSt} {K216 : MSt → Int32 → Int64 → Int64 → Int32 → Int32 → Option (MSt)} : ∀ (σ : MSt) (x1 : Int32) (x2 : Int64) (x4 : Int64) (x8 : Int32) (x9 : Int32) (x10 : Int64) (x12 : Int64) (x14 : Int32) (H : Heap) (locs : List Loc) (ls : Array Slot), fM_span_J382 N K216 σ x1 x2 x4 x8 x9 x10 x12 x14 = some q → va_P D vwCl (cellsM κ ρ σ) H → va_S (AM ρ s.heap.size) s.heap H locs → lv_has ls 15 [(0, .ref (ρ 40)), (1, .int x1), (2, .long x2), (4, .long x4), (8, .int x8), (9, .int x9), (10, .long x10), (12, .long x12), (14, .int x14)] → (∀ (σ : MSt) (x1 : Int32) (x2 : Int64) (x4 : Int64) (x8 : Int32) (x9 : Int32) (H : Heap) (locs : List Loc) (ls : Array Slot), K216 σ x1 x2 x4 x8 x9 = some q → va_P D vwCl (cellsM κ ρ σ) H → va_S (AM ρ s.heap.size) s.heap H locs → lv_has ls 15 [(0, .ref (ρ 40)), (1, .int x1), (2, .long x2), (4, .long x4), (8, .int x8), (9, .int x9)] → W p l e ({ frames := 5, cells := 0, slots := 0, locals := 117 } : Room) s m args below meth c H locs 0 0 (MQ below (QM D κ ρ s.heap.size q none) args s 0 0 (AM ρ s.heap.size)) (F0 m 216 ls [])) → W p l e ({ frames := 5, cells := 0, slots := 0, locals := 117 } : Room) s m args below meth c H locs 0 0 (MQ below (QM D κ ρ s.heap.size q none) args s 0 0 (AM ρ s.heap.size)) (F0 m 382 ls []) := by
  have hx := C.1.1
  have hb := C.1.2.1
  have hts := C.1.2.2.2.2
  have hown := C.1.2.2.2.1
  intro σ x1 x2 x4 x8 x9 x10 x12 x14 H locs ls h hP hS hl hK216
  unfold fM_span_J382 at h
  refine lv_iload hx hb dX7_span_382 (lv_at hl 8 rfl) ?_
  refine lv_if_ne (tgt := 390) hx hb dX7_span_384 (by decide) (fun c_384 => ?_) (fun c_384 => ?_)
  · have h := zz_neg c_384 h
    refine lv_iload hx hb dX7_span_390 (lv_at hl 5 rfl) ?_
    refine lv_istore (lv' := [(8, .int x9), (0, .ref (ρ 40)), (1, .int x1), (2, .long x2), (4, .long x4), (9, .int x9), (10, .long x10), (12, .long x12), (14, .int x14)]) hx hb dX7_span_392 hl (by decide) rfl (fun ls hl => ?_)
    refine lv_lload hx hb dX7_span_394 (lv_at hl 6 rfl) ?_
    refine lv_lstore_n (lv' := [(2, .long x10), (8, .int x9), (0, .ref (ρ 40)), (1, .int x1), (4, .long x4), (9, .int x9), (10, .long x10), (12, .long x12), (14, .int x14)]) hx hb dX7_span_396 rfl hl (by decide) rfl (fun ls hl => ?_)
    refine lv_lload hx hb dX7_span_397 (lv_at hl 7 rfl) ?_
    refine lv_lstore (lv' := [(4, .long x12), (2, .long x10), (8, .int x9), (0, .ref (ρ 40)), (1, .int x1), (9, .int x9), (10, .long x10), (12, .long x12), (14, .int x14)]) hx hb dX7_span_399 hl (by decide) rfl (fun ls hl => ?_)
    refine lv_iinc (v := (x9 + 1)) (lv' := [(9, .int (x9 + 1)), (4, .long x12), (2, .long x10), (8, .int x9), (0, .ref (ρ 40)), (1, .int x1), (10, .long x10), (12, .long x12), (14, .int x14)]) hx hb dX7_span_401 hl (k := 5) rfl rfl (by decide) rfl (fun ls hl => ?_)
    refine lv_goto (tgt := 216) hx hb dX7_span_404 (by decide) ?_
    exact hK216 _ _ _ _ _ _ _ _ _ h hP hS (lv_sub hl [4, 5, 2, 1, 3, 0] rfl)
  · have h := zz_pos c_384 h
    refine lv_goto (tgt := 401) hx hb dX7_span_387 (by decide) ?_
    refine lv_iinc (v := (x9 + 1)) (lv' := [(9, .int (x9 + 1)), (0, .ref (ρ 40)), (1, .int x1), (2, .long x2), (4, .long x4), (8, .int x8), (10, .long x10), (12, .long x12), (14, .int x14)]) hx hb dX7_span_401 hl (k := 5) rfl rfl (by decide) rfl (fun ls hl => ?_)
    refine lv_goto (tgt := 216) hx hb dX7_span_404 (by decide) ?_
    exact hK216 _ _ _ _ _ _ _ _ _ h hP hS (lv_sub hl [1, 2, 3, 4, 5, 0] rfl)
set_option maxRecDepth 100000 in
set_option maxHeartbeats 4000000 in
theorem wM_span_J380 {p : Program} {l : Launch} {e : Env} {s : State} {m : MethodId} {args : Array Value} {below : List Frame} {meth : Method} {c : Code} {D : va_G} {κ : Nat → ClassId} {ρ : Nat → Nat} (C : MC p m c cX7_span 15 s args wsX7_span D κ) (hr : meth.sig.returnType = none) (hlk : meth.locks = false) (hD : DM (AM ρ s.heap.size) ρ) {N : Nat} {q : MSt} {K216 : MSt → Int32 → Int64 → Int64 → Int32 → Int32 → Option (MSt)} : ∀ (σ : MSt) (x1 : Int32) (x2 : Int64) (x4 : Int64) (x8 : Int32) (x9 : Int32) (x10 : Int64) (x12 : Int64) (y0 : Int32) (H : Heap) (locs : List Loc) (ls : Array Slot), fM_span_J380 N K216 σ x1 x2 x4 x8 x9 x10 x12 y0 = some q → va_P D vwCl (cellsM κ ρ σ) H → va_S (AM ρ s.heap.size) s.heap H locs → lv_has ls 15 [(0, .ref (ρ 40)), (1, .int x1), (2, .long x2), (4, .long x4), (8, .int x8), (9, .int x9), (10, .long x10), (12, .long x12)] → (∀ (σ : MSt) (x1 : Int32) (x2 : Int64) (x4 : Int64) (x8 : Int32) (x9 : Int32) (H : Heap) (locs : List Loc) (ls : Array Slot), K216 σ x1 x2 x4 x8 x9 = some q → va_P D vwCl (cellsM κ ρ σ) H → va_S (AM ρ s.heap.size) s.heap H locs → lv_has ls 15 [(0, .ref (ρ 40)), (1, .int x1), (2, .long x2), (4, .long x4), (8, .int x8), (9, .int x9)] → W p l e ({ frames := 5, cells := 0, slots := 0, locals := 117 } : Room) s m args below meth c H locs 0 0 (MQ below (QM D κ ρ s.heap.size q none) args s 0 0 (AM ρ s.heap.size)) (F0 m 216 ls [])) → W p l e ({ frames := 5, cells := 0, slots := 0, locals := 117 } : Room) s m args below meth c H locs 0 0 (MQ below (QM D κ ρ s.heap.size q none) args s 0 0 (AM ρ s.heap.size)) (F0 m 380 ls [.int y0]) := by
  have hx := C.1.1
  have hb := C.1.2.1
  have hts := C.1.2.2.2.2
  have hown := C.1.2.2.2.1
  intro σ x1 x2 x4 x8 x9 x10 x12 y0 H locs ls h hP hS hl hK216
  unfold fM_span_J380 at h
  refine lv_istore (lv' := [(14, .int y0), (0, .ref (ρ 40)), (1, .int x1), (2, .long x2), (4, .long x4), (8, .int x8), (9, .int x9), (10, .long x10), (12, .long x12)]) hx hb dX7_span_380 hl (by decide) rfl (fun ls hl => ?_)
  refine wM_span_J382 C hr hlk hD _ _ _ _ _ _ _ _ _ _ _ _ h hP hS (lv_sub hl [1, 2, 3, 4, 5, 6, 7, 8, 0] rfl) ?_
  intro σ x1 x2 x4 x8 x9 H locs ls h hP hS hl
  exact hK216 _ _ _ _ _ _ _ _ _ h hP hS (lv_sub hl [0, 1, 2, 3, 4, 5] rfl)
set_option maxRecDepth 100000 in
set_option maxHeartbeats 4000000 in
theorem wM_span_J375 {p : Program} {l : Launch} {e : Env} {s : State} {m : MethodId} {args : Array Value} {below : List Frame} {meth : Method} {c : Code} {D : va_G} {κ : Nat → ClassId} {ρ : Nat → Nat} (C : MC p m c cX7_span 15 s args wsX7_span D κ) (hr : meth.sig.returnType = none) (hlk : meth.locks = false) (hD : DM (AM ρ s.heap.size) ρ) {N : Nat} {q : MSt} {K216 : MSt → Int32 → Int64 → Int64 → Int32 → Int32 → Option (MSt)} : ∀ (σ : MSt) (x1 : Int32) (x2 : Int64) (x4 : Int64) (x8 : Int32) (x9 : Int32) (x10 : Int64) (x12 : Int64) (H : Heap) (locs : List Loc) (ls : Array Slot), fM_span_J375 N K216 σ x1 x2 x4 x8 x9 x10 x12 = some q → va_P D vwCl (cellsM κ ρ σ) H → va_S (AM ρ s.heap.size) s.heap H locs → lv_has ls 15 [(0, .ref (ρ 40)), (1, .int x1), (2, .long x2), (4, .long x4), (8, .int x8), (9, .int x9), (10, .long x10), (12, .long x12)] → (∀ (σ : MSt) (x1 : Int32) (x2 : Int64) (x4 : Int64) (x8 : Int32) (x9 : Int32) (H : Heap) (locs : List Loc) (ls : Array Slot), K216 σ x1 x2 x4 x8 x9 = some q → va_P D vwCl (cellsM κ ρ σ) H → va_S (AM ρ s.heap.size) s.heap H locs → lv_has ls 15 [(0, .ref (ρ 40)), (1, .int x1), (2, .long x2), (4, .long x4), (8, .int x8), (9, .int x9)] → W p l e ({ frames := 5, cells := 0, slots := 0, locals := 117 } : Room) s m args below meth c H locs 0 0 (MQ below (QM D κ ρ s.heap.size q none) args s 0 0 (AM ρ s.heap.size)) (F0 m 216 ls [])) → W p l e ({ frames := 5, cells := 0, slots := 0, locals := 117 } : Room) s m args below meth c H locs 0 0 (MQ below (QM D κ ρ s.heap.size q none) args s 0 0 (AM ρ s.heap.size)) (F0 m 375 ls []) := by
  have hx := C.1.1
  have hb := C.1.2.1
  have hts := C.1.2.2.2.2
  have hown := C.1.2.2.2.1
  intro σ x1 x2 x4 x8 x9 x10 x12 H locs ls h hP hS hl hK216
  unfold fM_span_J375 at h
  refine lv_iconst (v := (1 : Int32)) hx hb dX7_span_375 (by decide) ?_
  refine lv_goto (tgt := 380) hx hb dX7_span_376 (by decide) ?_
  refine wM_span_J380 C hr hlk hD _ _ _ _ _ _ _ _ _ _ _ _ h hP hS (lv_sub hl [0, 1, 2, 3, 4, 5, 6, 7] rfl) ?_
  intro σ x1 x2 x4 x8 x9 H locs ls h hP hS hl
  exact hK216 _ _ _ _ _ _ _ _ _ h hP hS (lv_sub hl [0, 1, 2, 3, 4, 5] rfl)
set_option maxRecDepth 100000 in
set_option maxHeartbeats 4000000 in
theorem wM_span_J379 {p : Program} {l : Launch} {e : Env} {s : State} {m : MethodId} {args : Array Value} {below : List Frame} {meth : Method} {c : Code} {D : va_G} {κ : Nat → ClassId} {ρ : Nat → Nat} (C : MC p m c cX7_span 15 s args wsX7_span D κ) (hr : meth.sig.returnType = none) (hlk : meth.locks = false) (hD : DM (AM ρ s.heap.size) ρ) {N : Nat} {q : MSt} {K216 : MSt → Int32 → Int64 → Int64 → Int32 → Int32 → Option (MSt)} : ∀ (σ : MSt) (x1 : Int32) (x2 : Int64) (x4 : Int64) (x8 : Int32) (x9 : Int32) (x10 : Int64) (x12 : Int64) (H : Heap) (locs : List Loc) (ls : Array Slot), fM_span_J379 N K216 σ x1 x2 x4 x8 x9 x10 x12 = some q → va_P D vwCl (cellsM κ ρ σ) H → va_S (AM ρ s.heap.size) s.heap H locs → lv_has ls 15 [(0, .ref (ρ 40)), (1, .int x1), (2, .long x2), (4, .long x4), (8, .int x8), (9, .int x9), (10, .long x10), (12, .long x12)] → (∀ (σ : MSt) (x1 : Int32) (x2 : Int64) (x4 : Int64) (x8 : Int32) (x9 : Int32) (H : Heap) (locs : List Loc) (ls : Array Slot), K216 σ x1 x2 x4 x8 x9 = some q → va_P D vwCl (cellsM κ ρ σ) H → va_S (AM ρ s.heap.size) s.heap H locs → lv_has ls 15 [(0, .ref (ρ 40)), (1, .int x1), (2, .long x2), (4, .long x4), (8, .int x8), (9, .int x9)] → W p l e ({ frames := 5, cells := 0, slots := 0, locals := 117 } : Room) s m args below meth c H locs 0 0 (MQ below (QM D κ ρ s.heap.size q none) args s 0 0 (AM ρ s.heap.size)) (F0 m 216 ls [])) → W p l e ({ frames := 5, cells := 0, slots := 0, locals := 117 } : Room) s m args below meth c H locs 0 0 (MQ below (QM D κ ρ s.heap.size q none) args s 0 0 (AM ρ s.heap.size)) (F0 m 379 ls []) := by
  have hx := C.1.1
  have hb := C.1.2.1
  have hts := C.1.2.2.2.2
  have hown := C.1.2.2.2.1
  intro σ x1 x2 x4 x8 x9 x10 x12 H locs ls h hP hS hl hK216
  unfold fM_span_J379 at h
  refine lv_iconst (v := (0 : Int32)) hx hb dX7_span_379 (by decide) ?_
  refine wM_span_J380 C hr hlk hD _ _ _ _ _ _ _ _ _ _ _ _ h hP hS (lv_sub hl [0, 1, 2, 3, 4, 5, 6, 7] rfl) ?_
  intro σ x1 x2 x4 x8 x9 H locs ls h hP hS hl
  exact hK216 _ _ _ _ _ _ _ _ _ h hP hS (lv_sub hl [0, 1, 2, 3, 4, 5] rfl)
set_option maxRecDepth 100000 in
set_option maxHeartbeats 4000000 in
theorem wM_span_J302 {p : Program} {l : Launch} {e : Env} {s : State} {m : MethodId} {args : Array Value} {below : List Frame} {meth : Method} {c : Code} {D : va_G} {κ : Nat → ClassId} {ρ : Nat → Nat} (C : MC p m c cX7_span 15 s args wsX7_span D κ) (hr : meth.sig.returnType = none) (hlk : meth.locks = false) (hD : DM (AM ρ s.heap.size) ρ) {N : Nat} {q : MSt} {K216 : MSt → Int32 → Int64 → Int64 → Int32 → Int32 → Option (MSt)} : ∀ (σ : MSt) (x1 : Int32) (x2 : Int64) (x4 : Int64) (x8 : Int32) (x9 : Int32) (x10 : Int64) (x12 : Int64) (y0 : Int32) (H : Heap) (locs : List Loc) (ls : Array Slot), fM_span_J302 N K216 σ x1 x2 x4 x8 x9 x10 x12 y0 = some q → va_P D vwCl (cellsM κ ρ σ) H → va_S (AM ρ s.heap.size) s.heap H locs → lv_has ls 15 [(0, .ref (ρ 40)), (1, .int x1), (2, .long x2), (4, .long x4), (8, .int x8), (9, .int x9), (10, .long x10), (12, .long x12)] → (∀ (σ : MSt) (x1 : Int32) (x2 : Int64) (x4 : Int64) (x8 : Int32) (x9 : Int32) (H : Heap) (locs : List Loc) (ls : Array Slot), K216 σ x1 x2 x4 x8 x9 = some q → va_P D vwCl (cellsM κ ρ σ) H → va_S (AM ρ s.heap.size) s.heap H locs → lv_has ls 15 [(0, .ref (ρ 40)), (1, .int x1), (2, .long x2), (4, .long x4), (8, .int x8), (9, .int x9)] → W p l e ({ frames := 5, cells := 0, slots := 0, locals := 117 } : Room) s m args below meth c H locs 0 0 (MQ below (QM D κ ρ s.heap.size q none) args s 0 0 (AM ρ s.heap.size)) (F0 m 216 ls [])) → W p l e ({ frames := 5, cells := 0, slots := 0, locals := 117 } : Room) s m args below meth c H locs 0 0 (MQ below (QM D κ ρ s.heap.size q none) args s 0 0 (AM ρ s.heap.size)) (F0 m 302 ls [.int y0]) := by
  have hx := C.1.1
  have hb := C.1.2.1
  have hts := C.1.2.2.2.2
  have hown := C.1.2.2.2.1
  have k_63 := hts (.fieldLink RX7 63 "PlanCabinetModel" "code" "[I") (by decide +kernel)
  have k_76 := hts (.fieldLink RX7 76 "PlanCabinetModel" "priceB" "[J") (by decide +kernel)
  have in_7 : ∀ w ∈ wsX70, w ∈ wsX7_span := by decide +kernel
  intro σ x1 x2 x4 x8 x9 x10 x12 y0 H locs ls h hP hS hl hK216
  unfold fM_span_J302 at h
  refine lv_istore (lv' := [(14, .int y0), (0, .ref (ρ 40)), (1, .int x1), (2, .long x2), (4, .long x4), (8, .int x8), (9, .int x9), (10, .long x10), (12, .long x12)]) hx hb dX7_span_302 hl (by decide) rfl (fun ls hl => ?_)
  refine lv_iload hx hb dX7_span_304 (lv_at hl 5 rfl) ?_
  refine lv_if_lt (tgt := 382) hx hb dX7_span_306 (by decide) (fun c_306 => ?_) (fun c_306 => ?_)
  · have h := zz_pos c_306 h
    refine wM_span_J382 C hr hlk hD _ _ _ _ _ _ _ _ _ _ _ _ h hP hS (lv_sub hl [1, 2, 3, 4, 5, 6, 7, 8, 0] rfl) ?_
    intro σ x1 x2 x4 x8 x9 H locs ls h hP hS hl
    exact hK216 _ _ _ _ _ _ _ _ _ h hP hS (lv_sub hl [0, 1, 2, 3, 4, 5] rfl)
  · have h := zz_neg c_306 h
    refine lv_lload hx hb dX7_span_309 (lv_at hl 7 rfl) ?_
    refine lv_lload hx hb dX7_span_311 (lv_at hl 4 rfl) ?_
    refine lv_lmul hx hb dX7_span_313 ?_
    refine lv_lload_n hx hb dX7_span_314 rfl (lv_at hl 3 rfl) ?_
    refine lv_lload hx hb dX7_span_315 (lv_at hl 8 rfl) ?_
    refine lv_lmul hx hb dX7_span_317 ?_
    refine W.lcmp hx hb dX7_span_318 ?_
    refine lv_if_ne (tgt := 382) hx hb dX7_span_319 (by decide) (fun c_319 => ?_) (fun c_319 => ?_)
    · have h := zz_neg c_319 h
      refine wM_span_J382 C hr hlk hD _ _ _ _ _ _ _ _ _ _ _ _ h hP hS (lv_sub hl [1, 2, 3, 4, 5, 6, 7, 8, 0] rfl) ?_
      intro σ x1 x2 x4 x8 x9 H locs ls h hP hS hl
      exact hK216 _ _ _ _ _ _ _ _ _ h hP hS (lv_sub hl [0, 1, 2, 3, 4, 5] rfl)
    · have h := zz_pos c_319 h
      refine lv_aload_n hx hb dX7_span_322 rfl (lv_at hl 1 rfl) ?_
      refine mG_21 C in_7 hP k_76 dX7_span_323 ?_
      refine lv_iload hx hb dX7_span_326 (lv_at hl 6 rfl) ?_
      obtain ⟨b_328, h⟩ := chk_of h
      refine mL_21 C hP b_328 dX7_span_328 ?_
      refine lv_aload_n hx hb dX7_span_329 rfl (lv_at hl 1 rfl) ?_
      refine mG_21 C in_7 hP k_76 dX7_span_330 ?_
      refine lv_iload hx hb dX7_span_333 (lv_at hl 5 rfl) ?_
      obtain ⟨b_335, h⟩ := chk_of h
      refine mL_21 C hP b_335 dX7_span_335 ?_
      refine W.lcmp hx hb dX7_span_336 ?_
      refine lv_if_lt (tgt := 375) hx hb dX7_span_337 (by decide) (fun c_337 => ?_) (fun c_337 => ?_)
      · have h := zz_pos c_337 h
        refine wM_span_J375 C hr hlk hD _ _ _ _ _ _ _ _ _ _ _ h hP hS (lv_sub hl [1, 2, 3, 4, 5, 6, 7, 8] rfl) ?_
        intro σ x1 x2 x4 x8 x9 H locs ls h hP hS hl
        exact hK216 _ _ _ _ _ _ _ _ _ h hP hS (lv_sub hl [0, 1, 2, 3, 4, 5] rfl)
      · have h := zz_neg c_337 h
        refine lv_aload_n hx hb dX7_span_340 rfl (lv_at hl 1 rfl) ?_
        refine mG_21 C in_7 hP k_76 dX7_span_341 ?_
        refine lv_iload hx hb dX7_span_344 (lv_at hl 6 rfl) ?_
        obtain ⟨b_346, h⟩ := chk_of h
        refine mL_21 C hP b_346 dX7_span_346 ?_
        refine lv_aload_n hx hb dX7_span_347 rfl (lv_at hl 1 rfl) ?_
        refine mG_21 C in_7 hP k_76 dX7_span_348 ?_
        refine lv_iload hx hb dX7_span_351 (lv_at hl 5 rfl) ?_
        obtain ⟨b_353, h⟩ := chk_of h
        refine mL_21 C hP b_353 dX7_span_353 ?_
        refine W.lcmp hx hb dX7_span_354 ?_
        refine lv_if_ne (tgt := 379) hx hb dX7_span_355 (by decide) (fun c_355 => ?_) (fun c_355 => ?_)
        · have h := zz_neg c_355 h
          refine wM_span_J379 C hr hlk hD _ _ _ _ _ _ _ _ _ _ _ h hP hS (lv_sub hl [1, 2, 3, 4, 5, 6, 7, 8] rfl) ?_
          intro σ x1 x2 x4 x8 x9 H locs ls h hP hS hl
          exact hK216 _ _ _ _ _ _ _ _ _ h hP hS (lv_sub hl [0, 1, 2, 3, 4, 5] rfl)
        · have h := zz_pos c_355 h
          refine lv_aload_n hx hb dX7_span_358 rfl (lv_at hl 1 rfl) ?_
          refine mG_17 C in_7 hP k_63 dX7_span_359 ?_
          refine lv_iload hx hb dX7_span_362 (lv_at hl 6 rfl) ?_
          obtain ⟨b_364, h⟩ := chk_of h
          refine mL_17 C hP b_364 dX7_span_364 ?_
          refine lv_aload_n hx hb dX7_span_365 rfl (lv_at hl 1 rfl) ?_
          refine mG_17 C in_7 hP k_63 dX7_span_366 ?_
          refine lv_iload hx hb dX7_span_369 (lv_at hl 5 rfl) ?_
          obtain ⟨b_371, h⟩ := chk_of h
          refine mL_17 C hP b_371 dX7_span_371 ?_
          refine lv_icmp_ge (tgt := 379) hx hb dX7_span_372 (by decide) (fun c_372 => ?_) (fun c_372 => ?_)
          · have h := zz_pos c_372 h
            refine wM_span_J379 C hr hlk hD _ _ _ _ _ _ _ _ _ _ _ h hP hS (lv_sub hl [1, 2, 3, 4, 5, 6, 7, 8] rfl) ?_
            intro σ x1 x2 x4 x8 x9 H locs ls h hP hS hl
            exact hK216 _ _ _ _ _ _ _ _ _ h hP hS (lv_sub hl [0, 1, 2, 3, 4, 5] rfl)
          · have h := zz_neg c_372 h
            refine wM_span_J375 C hr hlk hD _ _ _ _ _ _ _ _ _ _ _ h hP hS (lv_sub hl [1, 2, 3, 4, 5, 6, 7, 8] rfl) ?_
            intro σ x1 x2 x4 x8 x9 H locs ls h hP hS hl
            exact hK216 _ _ _ _ _ _ _ _ _ h hP hS (lv_sub hl [0, 1, 2, 3, 4, 5] rfl)
set_option maxRecDepth 100000 in
set_option maxHeartbeats 4000000 in
theorem wM_span_J297 {p : Program} {l : Launch} {e : Env} {s : State} {m : MethodId} {args : Array Value} {below : List Frame} {meth : Method} {c : Code} {D : va_G} {κ : Nat → ClassId} {ρ : Nat → Nat} (C : MC p m c cX7_span 15 s args wsX7_span D κ) (hr : meth.sig.returnType = none) (hlk : meth.locks = false) (hD : DM (AM ρ s.heap.size) ρ) {N : Nat} {q : MSt} {K216 : MSt → Int32 → Int64 → Int64 → Int32 → Int32 → Option (MSt)} : ∀ (σ : MSt) (x1 : Int32) (x2 : Int64) (x4 : Int64) (x8 : Int32) (x9 : Int32) (x10 : Int64) (x12 : Int64) (H : Heap) (locs : List Loc) (ls : Array Slot), fM_span_J297 N K216 σ x1 x2 x4 x8 x9 x10 x12 = some q → va_P D vwCl (cellsM κ ρ σ) H → va_S (AM ρ s.heap.size) s.heap H locs → lv_has ls 15 [(0, .ref (ρ 40)), (1, .int x1), (2, .long x2), (4, .long x4), (8, .int x8), (9, .int x9), (10, .long x10), (12, .long x12)] → (∀ (σ : MSt) (x1 : Int32) (x2 : Int64) (x4 : Int64) (x8 : Int32) (x9 : Int32) (H : Heap) (locs : List Loc) (ls : Array Slot), K216 σ x1 x2 x4 x8 x9 = some q → va_P D vwCl (cellsM κ ρ σ) H → va_S (AM ρ s.heap.size) s.heap H locs → lv_has ls 15 [(0, .ref (ρ 40)), (1, .int x1), (2, .long x2), (4, .long x4), (8, .int x8), (9, .int x9)] → W p l e ({ frames := 5, cells := 0, slots := 0, locals := 117 } : Room) s m args below meth c H locs 0 0 (MQ below (QM D κ ρ s.heap.size q none) args s 0 0 (AM ρ s.heap.size)) (F0 m 216 ls [])) → W p l e ({ frames := 5, cells := 0, slots := 0, locals := 117 } : Room) s m args below meth c H locs 0 0 (MQ below (QM D κ ρ s.heap.size q none) args s 0 0 (AM ρ s.heap.size)) (F0 m 297 ls []) := by
  have hx := C.1.1
  have hb := C.1.2.1
  have hts := C.1.2.2.2.2
  have hown := C.1.2.2.2.1
  intro σ x1 x2 x4 x8 x9 x10 x12 H locs ls h hP hS hl hK216
  unfold fM_span_J297 at h
  refine lv_iconst (v := (1 : Int32)) hx hb dX7_span_297 (by decide) ?_
  refine lv_goto (tgt := 302) hx hb dX7_span_298 (by decide) ?_
  refine wM_span_J302 C hr hlk hD _ _ _ _ _ _ _ _ _ _ _ _ h hP hS (lv_sub hl [0, 1, 2, 3, 4, 5, 6, 7] rfl) ?_
  intro σ x1 x2 x4 x8 x9 H locs ls h hP hS hl
  exact hK216 _ _ _ _ _ _ _ _ _ h hP hS (lv_sub hl [0, 1, 2, 3, 4, 5] rfl)
set_option maxRecDepth 100000 in
set_option maxHeartbeats 4000000 in
theorem wM_span_L216 {p : Program} {l : Launch} {e : Env} {s : State} {m : MethodId} {args : Array Value} {below : List Frame} {meth : Method} {c : Code} {D : va_G} {κ : Nat → ClassId} {ρ : Nat → Nat} (C : MC p m c cX7_span 15 s args wsX7_span D κ) (hr : meth.sig.returnType = none) (hlk : meth.locks = false) (hD : DM (AM ρ s.heap.size) ρ) {N : Nat} {q : MSt} {K407 : MSt → Int64 → Int64 → Int32 → Option (MSt)} : ∀ (n : Nat) (σ : MSt) (x1 : Int32) (x2 : Int64) (x4 : Int64) (x8 : Int32) (x9 : Int32) (H : Heap) (locs : List Loc) (ls : Array Slot), fM_span_L216 N K407 n σ x1 x2 x4 x8 x9 = some q → va_P D vwCl (cellsM κ ρ σ) H → va_S (AM ρ s.heap.size) s.heap H locs → lv_has ls 15 [(0, .ref (ρ 40)), (1, .int x1), (2, .long x2), (4, .long x4), (8, .int x8), (9, .int x9)] → (∀ (σ : MSt) (x2 : Int64) (x4 : Int64) (x8 : Int32) (H : Heap) (locs : List Loc) (ls : Array Slot), K407 σ x2 x4 x8 = some q → va_P D vwCl (cellsM κ ρ σ) H → va_S (AM ρ s.heap.size) s.heap H locs → lv_has ls 15 [(0, .ref (ρ 40)), (2, .long x2), (4, .long x4), (8, .int x8)] → W p l e ({ frames := 5, cells := 0, slots := 0, locals := 117 } : Room) s m args below meth c H locs 0 0 (MQ below (QM D κ ρ s.heap.size q none) args s 0 0 (AM ρ s.heap.size)) (F0 m 407 ls [])) → W p l e ({ frames := 5, cells := 0, slots := 0, locals := 117 } : Room) s m args below meth c H locs 0 0 (MQ below (QM D κ ρ s.heap.size q none) args s 0 0 (AM ρ s.heap.size)) (F0 m 216 ls []) := by
  have hx := C.1.1
  have hb := C.1.2.1
  have hts := C.1.2.2.2.2
  have hown := C.1.2.2.2.1
  have k_72 := hts (.fieldLink RX7 72 "PlanCabinetModel" "priceA" "[J") (by decide +kernel)
  have k_76 := hts (.fieldLink RX7 76 "PlanCabinetModel" "priceB" "[J") (by decide +kernel)
  have k_79 := hts (.fieldLink RX7 79 "PlanCabinetModel" "listed" "I") (by decide +kernel)
  have k_154 := hts (.constantLong RX7 154 (4)) (by decide +kernel)
  have in_7 : ∀ w ∈ wsX70, w ∈ wsX7_span := by decide +kernel
  intro n
  induction n with
  | zero =>
    intro σ x1 x2 x4 x8 x9 H locs ls h hP hS hl hK407
    rw [fM_span_L216] at h
    cases h
  | succ n ih =>
    intro σ x1 x2 x4 x8 x9 H locs ls h hP hS hl hK407
    rw [fM_span_L216] at h
    refine lv_iload hx hb dX7_span_216 (lv_at hl 5 rfl) ?_
    refine lv_aload_n hx hb dX7_span_218 rfl (lv_at hl 0 rfl) ?_
    refine mG_22 C in_7 hP k_79 dX7_span_219 ?_
    refine lv_icmp_ge (tgt := 407) hx hb dX7_span_222 (by decide) (fun c_222 => ?_) (fun c_222 => ?_)
    · have h := zz_pos c_222 h
      exact hK407 _ _ _ _ _ _ _ h hP hS (lv_sub hl [0, 2, 3, 4] rfl)
    · have h := zz_neg c_222 h
      refine lv_aload_n hx hb dX7_span_225 rfl (lv_at hl 0 rfl) ?_
      refine mG_20 C in_7 hP k_72 dX7_span_226 ?_
      refine lv_iload hx hb dX7_span_229 (lv_at hl 5 rfl) ?_
      obtain ⟨b_231, h⟩ := chk_of h
      refine mL_20 C hP b_231 dX7_span_231 ?_
      refine lv_aload_n hx hb dX7_span_232 rfl (lv_at hl 0 rfl) ?_
      refine mG_20 C in_7 hP k_72 dX7_span_233 ?_
      refine lv_iload_n hx hb dX7_span_236 rfl (lv_at hl 1 rfl) ?_
      obtain ⟨b_237, h⟩ := chk_of h
      refine mL_20 C hP b_237 dX7_span_237 ?_
      refine lv_lsub hx hb dX7_span_238 ?_
      refine lv_lstore (lv' := [(10, .long ((σ.2.2.2 20 x9.toNatClampNeg) - (σ.2.2.2 20 x1.toNatClampNeg))), (0, .ref (ρ 40)), (1, .int x1), (2, .long x2), (4, .long x4), (8, .int x8), (9, .int x9)]) hx hb dX7_span_239 hl (by decide) rfl (fun ls hl => ?_)
      refine lv_aload_n hx hb dX7_span_241 rfl (lv_at hl 1 rfl) ?_
      refine mG_21 C in_7 hP k_76 dX7_span_242 ?_
      refine lv_iload_n hx hb dX7_span_245 rfl (lv_at hl 2 rfl) ?_
      obtain ⟨b_246, h⟩ := chk_of h
      refine mL_21 C hP b_246 dX7_span_246 ?_
      refine lv_aload_n hx hb dX7_span_247 rfl (lv_at hl 1 rfl) ?_
      refine mG_21 C in_7 hP k_76 dX7_span_248 ?_
      refine lv_iload hx hb dX7_span_251 (lv_at hl 6 rfl) ?_
      obtain ⟨b_253, h⟩ := chk_of h
      refine mL_21 C hP b_253 dX7_span_253 ?_
      refine lv_lsub hx hb dX7_span_254 ?_
      refine lv_lstore (lv' := [(12, .long ((σ.2.2.2 21 x1.toNatClampNeg) - (σ.2.2.2 21 x9.toNatClampNeg))), (10, .long ((σ.2.2.2 20 x9.toNatClampNeg) - (σ.2.2.2 20 x1.toNatClampNeg))), (0, .ref (ρ 40)), (1, .int x1), (2, .long x2), (4, .long x4), (8, .int x8), (9, .int x9)]) hx hb dX7_span_255 hl (by decide) rfl (fun ls hl => ?_)
      refine lv_lload hx hb dX7_span_257 (lv_at hl 0 rfl) ?_
      refine lv_lconst (v := (0 : Int64)) hx hb dX7_span_259 (by decide) ?_
      refine W.lcmp hx hb dX7_span_260 ?_
      refine lv_if_le (tgt := 401) hx hb dX7_span_261 (by decide) (fun c_261 => ?_) (fun c_261 => ?_)
      · have h := zz_pos c_261 h
        refine lv_iinc (v := (x9 + 1)) (lv' := [(9, .int (x9 + 1)), (12, .long ((σ.2.2.2 21 x1.toNatClampNeg) - (σ.2.2.2 21 x9.toNatClampNeg))), (10, .long ((σ.2.2.2 20 x9.toNatClampNeg) - (σ.2.2.2 20 x1.toNatClampNeg))), (0, .ref (ρ 40)), (1, .int x1), (2, .long x2), (4, .long x4), (8, .int x8)]) hx hb dX7_span_401 hl (k := 7) rfl rfl (by decide) rfl (fun ls hl => ?_)
        refine lv_goto (tgt := 216) hx hb dX7_span_404 (by decide) ?_
        exact ih _ _ _ _ _ _ _ _ _ h hP hS (lv_sub hl [3, 4, 5, 6, 7, 0] rfl) hK407
      · have h := zz_neg c_261 h
        refine lv_lload hx hb dX7_span_264 (lv_at hl 1 rfl) ?_
        refine lv_ldc2 hx hb hown k_154 dX7_span_266 ?_
        refine lv_lload hx hb dX7_span_269 (lv_at hl 0 rfl) ?_
        refine lv_lmul hx hb dX7_span_271 ?_
        refine W.lcmp hx hb dX7_span_272 ?_
        refine lv_if_lt (tgt := 279) hx hb dX7_span_273 (by decide) (fun c_273 => ?_) (fun c_273 => ?_)
        · have h := zz_pos c_273 h
          refine lv_iload hx hb dX7_span_279 (lv_at hl 6 rfl) ?_
          refine lv_if_lt (tgt := 297) hx hb dX7_span_281 (by decide) (fun c_281 => ?_) (fun c_281 => ?_)
          · have h := zz_pos c_281 h
            refine wM_span_J297 C hr hlk hD _ _ _ _ _ _ _ _ _ _ _ h hP hS (lv_sub hl [2, 3, 4, 5, 6, 7, 1, 0] rfl) ?_
            intro σ x1 x2 x4 x8 x9 H locs ls h hP hS hl
            exact ih _ _ _ _ _ _ _ _ _ h hP hS (lv_sub hl [0, 1, 2, 3, 4, 5] rfl) hK407
          · have h := zz_neg c_281 h
            refine lv_lload hx hb dX7_span_284 (lv_at hl 1 rfl) ?_
            refine lv_lload hx hb dX7_span_286 (lv_at hl 5 rfl) ?_
            refine lv_lmul hx hb dX7_span_288 ?_
            refine lv_lload_n hx hb dX7_span_289 rfl (lv_at hl 4 rfl) ?_
            refine lv_lload hx hb dX7_span_290 (lv_at hl 0 rfl) ?_
            refine lv_lmul hx hb dX7_span_292 ?_
            refine W.lcmp hx hb dX7_span_293 ?_
            refine lv_if_ge (tgt := 301) hx hb dX7_span_294 (by decide) (fun c_294 => ?_) (fun c_294 => ?_)
            · have h := zz_pos c_294 h
              refine lv_iconst (v := (0 : Int32)) hx hb dX7_span_301 (by decide) ?_
              refine wM_span_J302 C hr hlk hD _ _ _ _ _ _ _ _ _ _ _ _ h hP hS (lv_sub hl [2, 3, 4, 5, 6, 7, 1, 0] rfl) ?_
              intro σ x1 x2 x4 x8 x9 H locs ls h hP hS hl
              exact ih _ _ _ _ _ _ _ _ _ h hP hS (lv_sub hl [0, 1, 2, 3, 4, 5] rfl) hK407
            · have h := zz_neg c_294 h
              refine wM_span_J297 C hr hlk hD _ _ _ _ _ _ _ _ _ _ _ h hP hS (lv_sub hl [2, 3, 4, 5, 6, 7, 1, 0] rfl) ?_
              intro σ x1 x2 x4 x8 x9 H locs ls h hP hS hl
              exact ih _ _ _ _ _ _ _ _ _ h hP hS (lv_sub hl [0, 1, 2, 3, 4, 5] rfl) hK407
        · have h := zz_neg c_273 h
          refine lv_goto (tgt := 401) hx hb dX7_span_276 (by decide) ?_
          refine lv_iinc (v := (x9 + 1)) (lv' := [(9, .int (x9 + 1)), (12, .long ((σ.2.2.2 21 x1.toNatClampNeg) - (σ.2.2.2 21 x9.toNatClampNeg))), (10, .long ((σ.2.2.2 20 x9.toNatClampNeg) - (σ.2.2.2 20 x1.toNatClampNeg))), (0, .ref (ρ 40)), (1, .int x1), (2, .long x2), (4, .long x4), (8, .int x8)]) hx hb dX7_span_401 hl (k := 7) rfl rfl (by decide) rfl (fun ls hl => ?_)
          refine lv_goto (tgt := 216) hx hb dX7_span_404 (by decide) ?_
          exact ih _ _ _ _ _ _ _ _ _ h hP hS (lv_sub hl [3, 4, 5, 6, 7, 0] rfl) hK407
set_option maxRecDepth 100000 in
set_option maxHeartbeats 4000000 in
theorem wM_span_J163 {p : Program} {l : Launch} {e : Env} {s : State} {m : MethodId} {args : Array Value} {below : List Frame} {meth : Method} {c : Code} {D : va_G} {κ : Nat → ClassId} {ρ : Nat → Nat} (C : MC p m c cX7_span 15 s args wsX7_span D κ) (hr : meth.sig.returnType = none) (hlk : meth.locks = false) (hD : DM (AM ρ s.heap.size) ρ) {N : Nat} {q : MSt} {K131 : MSt → Int32 → Int64 → Int64 → Option (MSt)} : ∀ (σ : MSt) (x1 : Int32) (x2 : Int64) (x4 : Int64) (y0 : Int64) (H : Heap) (locs : List Loc) (ls : Array Slot), fM_span_J163 N K131 σ x1 x2 x4 y0 = some q → va_P D vwCl (cellsM κ ρ σ) H → va_S (AM ρ s.heap.size) s.heap H locs → lv_has ls 15 [(0, .ref (ρ 40)), (1, .int x1), (2, .long x2), (4, .long x4)] → (∀ (σ : MSt) (x1 : Int32) (x2 : Int64) (x4 : Int64) (H : Heap) (locs : List Loc) (ls : Array Slot), K131 σ x1 x2 x4 = some q → va_P D vwCl (cellsM κ ρ σ) H → va_S (AM ρ s.heap.size) s.heap H locs → lv_has ls 15 [(0, .ref (ρ 40)), (1, .int x1), (2, .long x2), (4, .long x4)] → W p l e ({ frames := 5, cells := 0, slots := 0, locals := 117 } : Room) s m args below meth c H locs 0 0 (MQ below (QM D κ ρ s.heap.size q none) args s 0 0 (AM ρ s.heap.size)) (F0 m 131 ls [])) → W p l e ({ frames := 5, cells := 0, slots := 0, locals := 117 } : Room) s m args below meth c H locs 0 0 (MQ below (QM D κ ρ s.heap.size q none) args s 0 0 (AM ρ s.heap.size)) (F0 m 163 ls [.long y0]) := by
  have hx := C.1.1
  have hb := C.1.2.1
  have hts := C.1.2.2.2.2
  have hown := C.1.2.2.2.1
  have k_60 := hts (.fieldLink RX7 60 "PlanCabinetModel" "from" "[I") (by decide +kernel)
  have k_85 := hts (.fieldLink RX7 85 "PlanCabinetModel" "above" "[J") (by decide +kernel)
  have k_88 := hts (.fieldLink RX7 88 "PlanCabinetModel" "below" "[J") (by decide +kernel)
  have k_91 := hts (.fieldLink RX7 91 "PlanCabinetModel" "spans" "I") (by decide +kernel)
  have in_7 : ∀ w ∈ wsX70, w ∈ wsX7_span := by decide +kernel
  intro σ x1 x2 x4 y0 H locs ls h hP hS hl hK131
  unfold fM_span_J163 at h
  refine lv_lstore (lv' := [(6, .long y0), (0, .ref (ρ 40)), (1, .int x1), (2, .long x2), (4, .long x4)]) hx hb dX7_span_163 hl (by decide) rfl (fun ls hl => ?_)
  refine lv_aload_n hx hb dX7_span_165 rfl (lv_at hl 1 rfl) ?_
  refine mG_24 C in_7 hP k_85 dX7_span_166 ?_
  refine lv_aload_n hx hb dX7_span_169 rfl (lv_at hl 1 rfl) ?_
  refine mG_26 C in_7 hP k_91 dX7_span_170 ?_
  refine lv_lload_n hx hb dX7_span_173 rfl (lv_at hl 3 rfl) ?_
  refine lv_lload hx hb dX7_span_174 (lv_at hl 0 rfl) ?_
  obtain ⟨b_176, h⟩ := nz64_of h
  refine lv_ldiv hx hb dX7_span_176 b_176 ?_
  obtain ⟨b_177, h⟩ := chk_of h
  refine mS_24 C hP hD hS b_177 dX7_span_177 (fun H locs hP hS => ?_)
  refine lv_aload_n hx hb dX7_span_178 rfl (lv_at hl 1 rfl) ?_
  refine mG_25 C in_7 hP k_88 dX7_span_179 ?_
  refine lv_aload_n hx hb dX7_span_182 rfl (lv_at hl 1 rfl) ?_
  refine mG_26 C in_7 hP k_91 dX7_span_183 ?_
  refine lv_lload hx hb dX7_span_186 (lv_at hl 4 rfl) ?_
  refine lv_lload hx hb dX7_span_188 (lv_at hl 0 rfl) ?_
  obtain ⟨b_190, h⟩ := nz64_of h
  refine lv_ldiv hx hb dX7_span_190 b_190 ?_
  obtain ⟨b_191, h⟩ := chk_of h
  refine mS_25 C hP hD hS b_191 dX7_span_191 (fun H locs hP hS => ?_)
  refine lv_aload_n hx hb dX7_span_192 rfl (lv_at hl 1 rfl) ?_
  refine lv_dup hx hb dX7_span_193 rfl ?_
  refine mG_26 C in_7 hP k_91 dX7_span_194 ?_
  refine lv_iconst (v := (1 : Int32)) hx hb dX7_span_197 (by decide) ?_
  refine lv_iadd hx hb dX7_span_198 ?_
  refine mP_26 C in_7 hP hD hS k_91 dX7_span_199 (fun H locs hP hS => ?_)
  refine lv_iconst (v := (-1 : Int32)) hx hb dX7_span_202 (by decide) ?_
  refine lv_istore (lv' := [(8, .int (-1 : Int32)), (6, .long y0), (0, .ref (ρ 40)), (1, .int x1), (2, .long x2), (4, .long x4)]) hx hb dX7_span_203 hl (by decide) rfl (fun ls hl => ?_)
  refine lv_aload_n hx hb dX7_span_205 rfl (lv_at hl 2 rfl) ?_
  refine mG_16 C in_7 hP k_60 dX7_span_206 ?_
  refine lv_aload_n hx hb dX7_span_209 rfl (lv_at hl 2 rfl) ?_
  obtain ⟨r_210, e_210, h⟩ := bnd_of h
  refine callP (W.runV (As := []) C.1 (cM_all e_210) (cwV 0 hts gX7_span_X7_all rfl rfl rfl (by decide +kernel) ⟨by decide, by decide⟩) (mPreR C.2 hP _) rfl rfl hl.1 rfl (lv_room (Nat.le_of_ble_eq_true rfl)) dX7_span_210 ⟨Nat.zero_le _, Nat.zero_le _⟩) ?_
  obtain ⟨b_213, h⟩ := chk_of h
  refine mL_16 C hP b_213 dX7_span_213 ?_
  refine lv_istore (lv' := [(9, .int ((sI (sB (sB σ 24 (σ.1 26).toNatClampNeg (x2 / y0)) 25 ((sB σ 24 (σ.1 26).toNatClampNeg (x2 / y0)).1 26).toNatClampNeg (x4 / y0)) 26 (((sB (sB σ 24 (σ.1 26).toNatClampNeg (x2 / y0)) 25 ((sB σ 24 (σ.1 26).toNatClampNeg (x2 / y0)).1 26).toNatClampNeg (x4 / y0)).1 26) + (1 : Int32))).2.2.1 16 r_210.toNatClampNeg)), (8, .int (-1 : Int32)), (6, .long y0), (0, .ref (ρ 40)), (1, .int x1), (2, .long x2), (4, .long x4)]) hx hb dX7_span_214 hl (by decide) rfl (fun ls hl => ?_)
  refine wM_span_L216 C hr hlk hD _ _ _ _ _ _ _ _ _ _ h hP hS (lv_sub hl [3, 4, 5, 6, 1, 0] rfl) ?_
  intro σ x2 x4 x8 H locs ls h hP hS hl
  refine lv_iload hx hb dX7_span_407 (lv_at hl 3 rfl) ?_
  refine lv_istore_n (lv' := [(1, .int x8), (0, .ref (ρ 40)), (2, .long x2), (4, .long x4), (8, .int x8)]) hx hb dX7_span_409 rfl hl (by decide) rfl (fun ls hl => ?_)
  refine lv_goto (tgt := 131) hx hb dX7_span_410 (by decide) ?_
  exact hK131 _ _ _ _ _ _ _ h hP hS (lv_sub hl [1, 0, 2, 3] rfl)
set_option maxRecDepth 100000 in
set_option maxHeartbeats 4000000 in
theorem wM_span_L131 {p : Program} {l : Launch} {e : Env} {s : State} {m : MethodId} {args : Array Value} {below : List Frame} {meth : Method} {c : Code} {D : va_G} {κ : Nat → ClassId} {ρ : Nat → Nat} (C : MC p m c cX7_span 15 s args wsX7_span D κ) (hr : meth.sig.returnType = none) (hlk : meth.locks = false) (hD : DM (AM ρ s.heap.size) ρ) {N : Nat} {q : MSt} : ∀ (n : Nat) (σ : MSt) (x1 : Int32) (x2 : Int64) (x4 : Int64) (H : Heap) (locs : List Loc) (ls : Array Slot), fM_span_L131 N n σ x1 x2 x4 = some q → va_P D vwCl (cellsM κ ρ σ) H → va_S (AM ρ s.heap.size) s.heap H locs → lv_has ls 15 [(0, .ref (ρ 40)), (1, .int x1), (2, .long x2), (4, .long x4)] → W p l e ({ frames := 5, cells := 0, slots := 0, locals := 117 } : Room) s m args below meth c H locs 0 0 (MQ below (QM D κ ρ s.heap.size q none) args s 0 0 (AM ρ s.heap.size)) (F0 m 131 ls []) := by
  have hx := C.1.1
  have hb := C.1.2.1
  have hts := C.1.2.2.2.2
  have hown := C.1.2.2.2.1
  have k_82 := hts (.fieldLink RX7 82 "PlanCabinetModel" "keen" "[I") (by decide +kernel)
  have k_91 := hts (.fieldLink RX7 91 "PlanCabinetModel" "spans" "I") (by decide +kernel)
  have in_7 : ∀ w ∈ wsX70, w ∈ wsX7_span := by decide +kernel
  intro n
  induction n with
  | zero =>
    intro σ x1 x2 x4 H locs ls h hP hS hl
    rw [fM_span_L131] at h
    cases h
  | succ n ih =>
    intro σ x1 x2 x4 H locs ls h hP hS hl
    rw [fM_span_L131] at h
    refine lv_iload_n hx hb dX7_span_131 rfl (lv_at hl 1 rfl) ?_
    refine lv_if_lt (tgt := 413) hx hb dX7_span_132 (by decide) (fun c_132 => ?_) (fun c_132 => ?_)
    · have h := zz_pos c_132 h
      exact W.vret hx hb hr (fun t ht hW => ⟨rfl, by rw [ht, ← some_of h]; exact hP, hS.F ht⟩) hS.2.2 dX7_span_413
    · have h := zz_neg c_132 h
      refine lv_aload_n hx hb dX7_span_135 rfl (lv_at hl 0 rfl) ?_
      refine mG_23 C in_7 hP k_82 dX7_span_136 ?_
      refine lv_aload_n hx hb dX7_span_139 rfl (lv_at hl 0 rfl) ?_
      refine mG_26 C in_7 hP k_91 dX7_span_140 ?_
      refine lv_iload_n hx hb dX7_span_143 rfl (lv_at hl 1 rfl) ?_
      obtain ⟨b_144, h⟩ := chk_of h
      refine mS_23 C hP hD hS b_144 dX7_span_144 (fun H locs hP hS => ?_)
      refine lv_lload_n hx hb dX7_span_145 rfl (lv_at hl 2 rfl) ?_
      refine lv_lconst (v := (0 : Int64)) hx hb dX7_span_146 (by decide) ?_
      refine W.lcmp hx hb dX7_span_147 ?_
      refine lv_if_ne (tgt := 156) hx hb dX7_span_148 (by decide) (fun c_148 => ?_) (fun c_148 => ?_)
      · have h := zz_neg c_148 h
        refine lv_aload_n hx hb dX7_span_156 rfl (lv_at hl 0 rfl) ?_
        refine lv_lload_n hx hb dX7_span_157 rfl (lv_at hl 2 rfl) ?_
        refine lv_lload hx hb dX7_span_158 (lv_at hl 3 rfl) ?_
        obtain ⟨r_160, e_160, h⟩ := bnd_of h
        refine callP (W.runV (As := [.long x2, .long x4]) C.1 (cM_divisor e_160) (cwV 2 hts gX7_span_X7_divisor rfl rfl rfl (by decide +kernel) ⟨by decide, by decide⟩) (mPreR C.2 hP _) rfl rfl hl.1 rfl (lv_room (Nat.le_of_ble_eq_true rfl)) dX7_span_160 ⟨Nat.zero_le _, Nat.zero_le _⟩) ?_
        refine wM_span_J163 C hr hlk hD _ _ _ _ _ _ _ _ h hP hS (lv_sub hl [0, 1, 2, 3] rfl) ?_
        intro σ x1 x2 x4 H locs ls h hP hS hl
        exact ih _ _ _ _ _ _ _ h hP hS (lv_sub hl [0, 1, 2, 3] rfl)
      · have h := zz_pos c_148 h
        refine lv_lload hx hb dX7_span_151 (lv_at hl 3 rfl) ?_
        refine lv_goto (tgt := 163) hx hb dX7_span_153 (by decide) ?_
        refine wM_span_J163 C hr hlk hD _ _ _ _ _ _ _ _ h hP hS (lv_sub hl [0, 1, 2, 3] rfl) ?_
        intro σ x1 x2 x4 H locs ls h hP hS hl
        exact ih _ _ _ _ _ _ _ h hP hS (lv_sub hl [0, 1, 2, 3] rfl)
set_option maxRecDepth 100000 in
set_option maxHeartbeats 4000000 in
theorem cM_span {l : Launch} {D : va_G} {κ : Nat → ClassId} {ρ : Nat → Nat} {sz : Nat} {N : Nat} {σ : MSt} {q : MSt} (h : fM_span N σ = some q) : Met l yX7_span wsX7_span ({ frames := 5, cells := 0, slots := 0, locals := 117 } : Room) (va_Pc [.ref (ρ 40)] (PM D κ ρ sz σ)) (QM D κ ρ sz q none) 0 0 (AM ρ sz) := by
  refine mMetM (ret := none) (by decide) rfl rfl (Nat.le_of_ble_eq_true rfl) ?_
  intro p e s m below meth c ls C hr hlk hD hP hl
  have hS : va_S (AM ρ s.heap.size) s.heap s.heap [] := va_S.rf
  have hl : lv_has ls 15 [(0, .ref (ρ 40))] := hl
  unfold fM_span at h
  have hx := C.1.1
  have hb := C.1.2.1
  have hts := C.1.2.2.2.2
  have hown := C.1.2.2.2.1
  have k_60 := hts (.fieldLink RX7 60 "PlanCabinetModel" "from" "[I") (by decide +kernel)
  have k_91 := hts (.fieldLink RX7 91 "PlanCabinetModel" "spans" "I") (by decide +kernel)
  have in_7 : ∀ w ∈ wsX70, w ∈ wsX7_span := by decide +kernel
  refine lv_aload_n hx hb dX7_span_0 rfl (lv_at hl 0 rfl) ?_
  obtain ⟨r_1, e_1, h⟩ := bnd_of h
  refine mCall (va_runV (As := []) C.1 (cM_list e_1) (cwV 0 hts gX7_span_X7_list rfl rfl rfl (by decide +kernel) ⟨by decide, by decide⟩) (mPreM C.2 hP hD _) rfl rfl hl.1 rfl (lv_room (Nat.le_of_ble_eq_true rfl)) dX7_span_1 ⟨Nat.zero_le _, Nat.zero_le _⟩) hS hD (fun _ h => Or.inr h) (fun H locs hP hS => ?_)
  refine lv_aload_n hx hb dX7_span_4 rfl (lv_at hl 0 rfl) ?_
  refine lv_iconst (v := (0 : Int32)) hx hb dX7_span_5 (by decide) ?_
  refine mP_26 C in_7 hP hD hS k_91 dX7_span_6 (fun H locs hP hS => ?_)
  refine lv_aload_n hx hb dX7_span_9 rfl (lv_at hl 0 rfl) ?_
  refine mG_16 C in_7 hP k_60 dX7_span_10 ?_
  refine lv_aload_n hx hb dX7_span_13 rfl (lv_at hl 0 rfl) ?_
  obtain ⟨r_14, e_14, h⟩ := bnd_of h
  refine callP (W.runV (As := []) C.1 (cM_all e_14) (cwV 0 hts gX7_span_X7_all rfl rfl rfl (by decide +kernel) ⟨by decide, by decide⟩) (mPreR C.2 hP _) rfl rfl hl.1 rfl (lv_room (Nat.le_of_ble_eq_true rfl)) dX7_span_14 ⟨Nat.zero_le _, Nat.zero_le _⟩) ?_
  obtain ⟨b_17, h⟩ := chk_of h
  refine mL_16 C hP b_17 dX7_span_17 ?_
  refine lv_istore_n (lv' := [(1, .int ((sI r_1 26 (0 : Int32)).2.2.1 16 r_14.toNatClampNeg)), (0, .ref (ρ 40))]) hx hb dX7_span_18 rfl hl (by decide) rfl (fun ls hl => ?_)
  refine lv_iload_n hx hb dX7_span_19 rfl (lv_at hl 0 rfl) ?_
  refine lv_istore_n (lv' := [(2, .int ((sI r_1 26 (0 : Int32)).2.2.1 16 r_14.toNatClampNeg)), (1, .int ((sI r_1 26 (0 : Int32)).2.2.1 16 r_14.toNatClampNeg)), (0, .ref (ρ 40))]) hx hb dX7_span_20 rfl hl (by decide) rfl (fun ls hl => ?_)
  refine wM_span_L21 C hr hlk hD _ _ _ _ _ _ _ h hP hS (lv_sub hl [2, 1, 0] rfl) ?_
  intro σ x1 H locs ls h hP hS hl
  refine lv_lconst (v := (0 : Int64)) hx hb dX7_span_126 (by decide) ?_
  refine lv_lstore_n (lv' := [(2, .long (0 : Int64)), (0, .ref (ρ 40)), (1, .int x1)]) hx hb dX7_span_127 rfl hl (by decide) rfl (fun ls hl => ?_)
  refine lv_lconst (v := (1 : Int64)) hx hb dX7_span_128 (by decide) ?_
  refine lv_lstore (lv' := [(4, .long (1 : Int64)), (2, .long (0 : Int64)), (0, .ref (ρ 40)), (1, .int x1)]) hx hb dX7_span_129 hl (by decide) rfl (fun ls hl => ?_)
  exact wM_span_L131 C hr hlk hD _ _ _ _ _ _ _ _ h hP hS (lv_sub hl [2, 3, 1, 0] rfl)
def fM_spans (N : Nat) (σ : MSt) : Option (Int32 × MSt) := (fM_isWhole N σ).bind fun r_1 => (if r_1 = 0 then some ((-3 : Int32), σ) else (fM_span N σ).bind fun r_11 => some ((r_11.1 26), r_11))
set_option maxRecDepth 100000 in
set_option maxHeartbeats 4000000 in
theorem cM_spans {l : Launch} {D : va_G} {κ : Nat → ClassId} {ρ : Nat → Nat} {sz : Nat} {N : Nat} {σ : MSt} {q : Int32 × MSt} (h : fM_spans N σ = some q) : Met l yX7_spans wsX7_spans ({ frames := 6, cells := 0, slots := 0, locals := 151 } : Room) (va_Pc [.ref (ρ 40)] (PM D κ ρ sz σ)) (QM D κ ρ sz q.2 (some (.int q.1))) 0 0 (AM ρ sz) := by
  refine mMetM (ret := (some .int)) (by decide) rfl rfl (Nat.le_of_ble_eq_true rfl) ?_
  intro p e s m below meth c ls C hr hlk hD hP hl
  have hS : va_S (AM ρ s.heap.size) s.heap s.heap [] := va_S.rf
  have hl : lv_has ls 1 [(0, .ref (ρ 40))] := hl
  unfold fM_spans at h
  have hx := C.1.1
  have hb := C.1.2.1
  have hts := C.1.2.2.2.2
  have hown := C.1.2.2.2.1
  have k_91 := hts (.fieldLink RX7 91 "PlanCabinetModel" "spans" "I") (by decide +kernel)
  have in_7 : ∀ w ∈ wsX70, w ∈ wsX7_spans := by decide +kernel
  refine lv_aload_n hx hb dX7_spans_0 rfl (lv_at hl 0 rfl) ?_
  obtain ⟨r_1, e_1, h⟩ := bnd_of h
  refine callP (W.runV (As := []) C.1 (cM_isWhole e_1) (cwV 0 hts gX7_spans_X7_isWhole rfl rfl rfl (by decide +kernel) ⟨by decide, by decide⟩) (mPreR C.2 hP _) rfl rfl hl.1 rfl (lv_room (Nat.le_of_ble_eq_true rfl)) dX7_spans_1 ⟨Nat.zero_le _, Nat.zero_le _⟩) ?_
  refine lv_if_ne (tgt := 10) hx hb dX7_spans_4 (by decide) (fun c_4 => ?_) (fun c_4 => ?_)
  · have h := zz_neg c_4 h
    refine lv_aload_n hx hb dX7_spans_10 rfl (lv_at hl 0 rfl) ?_
    obtain ⟨r_11, e_11, h⟩ := bnd_of h
    refine mCall (va_runV (As := []) C.1 (cM_span e_11) (cwV 0 hts gX7_spans_X7_span rfl rfl rfl (by decide +kernel) ⟨by decide, by decide⟩) (mPreM C.2 hP hD _) rfl rfl hl.1 rfl (lv_room (Nat.le_of_ble_eq_true rfl)) dX7_spans_11 ⟨Nat.zero_le _, Nat.zero_le _⟩) hS hD (fun _ h => Or.inr h) (fun H locs hP hS => ?_)
    refine lv_aload_n hx hb dX7_spans_14 rfl (lv_at hl 0 rfl) ?_
    refine mG_26 C in_7 hP k_91 dX7_spans_15 ?_
    exact W.iret hx hb hr (fun t ht hW => ⟨by rw [← some_of h], by rw [ht, ← some_of h]; exact hP, hS.F ht⟩) hS.2.2 dX7_spans_18
  · have h := zz_pos c_4 h
    refine lv_bipush (v := (-3 : Int32)) hx hb dX7_spans_7 (by decide) ?_
    exact W.iret hx hb hr (fun t ht hW => ⟨by rw [← some_of h], by rw [ht, ← some_of h]; exact hP, hS.F ht⟩) hS.2.2 dX7_spans_9
def fM_border (N : Nat) (σ : MSt) (x1 : Int32) (x2 : Int32) : Option (Int64 × MSt) := (fM_isWhole N σ).bind fun r_1 => (if r_1 = 0 then some ((-9223372036854775808 : Int64), σ) else (if x2 < 0 then some ((-9223372036854775808 : Int64), σ) else (if x2 ≤ (3 : Int32) then (fM_span N σ).bind fun r_21 => (if x1 < 0 then some ((-9223372036854775808 : Int64), r_21) else (if x1 < (r_21.1 26) then (if (2 : Int32) ≤ x2 then (if (x1 + (1 : Int32)) = (r_21.1 26) then (if x2 = (2 : Int32) then some ((4 : Int64), r_21) else some ((1 : Int64), r_21)) else (if x2 = (2 : Int32) then chk (x1 + (1 : Int32)) 5000 (some ((r_21.2.2.2 24 (x1 + (1 : Int32)).toNatClampNeg), r_21)) else chk (x1 + (1 : Int32)) 5000 (some ((r_21.2.2.2 25 (x1 + (1 : Int32)).toNatClampNeg), r_21)))) else (if x2 = 0 then chk x1 5000 (some ((r_21.2.2.2 24 x1.toNatClampNeg), r_21)) else chk x1 5000 (some ((r_21.2.2.2 25 x1.toNatClampNeg), r_21)))) else some ((-9223372036854775808 : Int64), r_21))) else some ((-9223372036854775808 : Int64), σ))))
set_option maxRecDepth 100000 in
set_option maxHeartbeats 4000000 in
theorem cM_border {l : Launch} {D : va_G} {κ : Nat → ClassId} {ρ : Nat → Nat} {sz : Nat} {N : Nat} {σ : MSt} {x1 : Int32} {x2 : Int32} {q : Int64 × MSt} (h : fM_border N σ x1 x2 = some q) : Met l yX7_border wsX7_border ({ frames := 6, cells := 0, slots := 0, locals := 151 } : Room) (va_Pc [.ref (ρ 40), .int x1, .int x2] (PM D κ ρ sz σ)) (QM D κ ρ sz q.2 (some (.long q.1))) 0 0 (AM ρ sz) := by
  refine mMetM (ret := (some .long)) (by decide) rfl rfl (Nat.le_of_ble_eq_true rfl) ?_
  intro p e s m below meth c ls C hr hlk hD hP hl
  have hS : va_S (AM ρ s.heap.size) s.heap s.heap [] := va_S.rf
  have hl : lv_has ls 3 [(0, .ref (ρ 40)), (1, .int x1), (2, .int x2)] := hl
  unfold fM_border at h
  have hx := C.1.1
  have hb := C.1.2.1
  have hts := C.1.2.2.2.2
  have hown := C.1.2.2.2.1
  have k_85 := hts (.fieldLink RX7 85 "PlanCabinetModel" "above" "[J") (by decide +kernel)
  have k_88 := hts (.fieldLink RX7 88 "PlanCabinetModel" "below" "[J") (by decide +kernel)
  have k_91 := hts (.fieldLink RX7 91 "PlanCabinetModel" "spans" "I") (by decide +kernel)
  have k_154 := hts (.constantLong RX7 154 (4)) (by decide +kernel)
  have k_222 := hts (.constantLong RX7 222 (-9223372036854775808)) (by decide +kernel)
  have in_7 : ∀ w ∈ wsX70, w ∈ wsX7_border := by decide +kernel
  refine lv_aload_n hx hb dX7_border_0 rfl (lv_at hl 0 rfl) ?_
  obtain ⟨r_1, e_1, h⟩ := bnd_of h
  refine callP (W.runV (As := []) C.1 (cM_isWhole e_1) (cwV 0 hts gX7_border_X7_isWhole rfl rfl rfl (by decide +kernel) ⟨by decide, by decide⟩) (mPreR C.2 hP _) rfl rfl hl.1 rfl (lv_room (Nat.le_of_ble_eq_true rfl)) dX7_border_1 ⟨Nat.zero_le _, Nat.zero_le _⟩) ?_
  refine lv_if_eq (tgt := 16) hx hb dX7_border_4 (by decide) (fun c_4 => ?_) (fun c_4 => ?_)
  · have h := zz_pos c_4 h
    refine lv_ldc2 hx hb hown k_222 dX7_border_16 ?_
    exact W.lret hx hb hr (fun t ht hW => ⟨by rw [← some_of h], by rw [ht, ← some_of h]; exact hP, hS.F ht⟩) hS.2.2 dX7_border_19
  · have h := zz_neg c_4 h
    refine lv_iload_n hx hb dX7_border_7 rfl (lv_at hl 2 rfl) ?_
    refine lv_if_lt (tgt := 16) hx hb dX7_border_8 (by decide) (fun c_8 => ?_) (fun c_8 => ?_)
    · have h := zz_pos c_8 h
      refine lv_ldc2 hx hb hown k_222 dX7_border_16 ?_
      exact W.lret hx hb hr (fun t ht hW => ⟨by rw [← some_of h], by rw [ht, ← some_of h]; exact hP, hS.F ht⟩) hS.2.2 dX7_border_19
    · have h := zz_neg c_8 h
      refine lv_iload_n hx hb dX7_border_11 rfl (lv_at hl 2 rfl) ?_
      refine lv_iconst (v := (3 : Int32)) hx hb dX7_border_12 (by decide) ?_
      refine lv_icmp_le (tgt := 20) hx hb dX7_border_13 (by decide) (fun c_13 => ?_) (fun c_13 => ?_)
      · have h := zz_pos c_13 h
        refine lv_aload_n hx hb dX7_border_20 rfl (lv_at hl 0 rfl) ?_
        obtain ⟨r_21, e_21, h⟩ := bnd_of h
        refine mCall (va_runV (As := []) C.1 (cM_span e_21) (cwV 0 hts gX7_border_X7_span rfl rfl rfl (by decide +kernel) ⟨by decide, by decide⟩) (mPreM C.2 hP hD _) rfl rfl hl.1 rfl (lv_room (Nat.le_of_ble_eq_true rfl)) dX7_border_21 ⟨Nat.zero_le _, Nat.zero_le _⟩) hS hD (fun _ h => Or.inr h) (fun H locs hP hS => ?_)
        refine lv_iload_n hx hb dX7_border_24 rfl (lv_at hl 1 rfl) ?_
        refine lv_if_lt (tgt := 36) hx hb dX7_border_25 (by decide) (fun c_25 => ?_) (fun c_25 => ?_)
        · have h := zz_pos c_25 h
          refine lv_ldc2 hx hb hown k_222 dX7_border_36 ?_
          exact W.lret hx hb hr (fun t ht hW => ⟨by rw [← some_of h], by rw [ht, ← some_of h]; exact hP, hS.F ht⟩) hS.2.2 dX7_border_39
        · have h := zz_neg c_25 h
          refine lv_iload_n hx hb dX7_border_28 rfl (lv_at hl 1 rfl) ?_
          refine lv_aload_n hx hb dX7_border_29 rfl (lv_at hl 0 rfl) ?_
          refine mG_26 C in_7 hP k_91 dX7_border_30 ?_
          refine lv_icmp_lt (tgt := 40) hx hb dX7_border_33 (by decide) (fun c_33 => ?_) (fun c_33 => ?_)
          · have h := zz_pos c_33 h
            refine lv_iload_n hx hb dX7_border_40 rfl (lv_at hl 2 rfl) ?_
            refine lv_iconst (v := (2 : Int32)) hx hb dX7_border_41 (by decide) ?_
            refine lv_icmp_ge (tgt := 65) hx hb dX7_border_42 (by decide) (fun c_42 => ?_) (fun c_42 => ?_)
            · have h := zz_pos c_42 h
              refine lv_iload_n hx hb dX7_border_65 rfl (lv_at hl 1 rfl) ?_
              refine lv_iconst (v := (1 : Int32)) hx hb dX7_border_66 (by decide) ?_
              refine lv_iadd hx hb dX7_border_67 ?_
              refine lv_aload_n hx hb dX7_border_68 rfl (lv_at hl 0 rfl) ?_
              refine mG_26 C in_7 hP k_91 dX7_border_69 ?_
              refine lv_icmp_ne (tgt := 88) hx hb dX7_border_72 (by decide) (fun c_72 => ?_) (fun c_72 => ?_)
              · have h := zz_neg c_72 h
                refine lv_iload_n hx hb dX7_border_88 rfl (lv_at hl 2 rfl) ?_
                refine lv_iconst (v := (2 : Int32)) hx hb dX7_border_89 (by decide) ?_
                refine lv_icmp_ne (tgt := 104) hx hb dX7_border_90 (by decide) (fun c_90 => ?_) (fun c_90 => ?_)
                · have h := zz_neg c_90 h
                  refine lv_aload_n hx hb dX7_border_104 rfl (lv_at hl 0 rfl) ?_
                  refine mG_25 C in_7 hP k_88 dX7_border_105 ?_
                  refine lv_iload_n hx hb dX7_border_108 rfl (lv_at hl 1 rfl) ?_
                  refine lv_iconst (v := (1 : Int32)) hx hb dX7_border_109 (by decide) ?_
                  refine lv_iadd hx hb dX7_border_110 ?_
                  obtain ⟨b_111, h⟩ := chk_of h
                  refine mL_25 C hP b_111 dX7_border_111 ?_
                  exact W.lret hx hb hr (fun t ht hW => ⟨by rw [← some_of h], by rw [ht, ← some_of h]; exact hP, hS.F ht⟩) hS.2.2 dX7_border_112
                · have h := zz_pos c_90 h
                  refine lv_aload_n hx hb dX7_border_93 rfl (lv_at hl 0 rfl) ?_
                  refine mG_24 C in_7 hP k_85 dX7_border_94 ?_
                  refine lv_iload_n hx hb dX7_border_97 rfl (lv_at hl 1 rfl) ?_
                  refine lv_iconst (v := (1 : Int32)) hx hb dX7_border_98 (by decide) ?_
                  refine lv_iadd hx hb dX7_border_99 ?_
                  obtain ⟨b_100, h⟩ := chk_of h
                  refine mL_24 C hP b_100 dX7_border_100 ?_
                  refine lv_goto (tgt := 112) hx hb dX7_border_101 (by decide) ?_
                  exact W.lret hx hb hr (fun t ht hW => ⟨by rw [← some_of h], by rw [ht, ← some_of h]; exact hP, hS.F ht⟩) hS.2.2 dX7_border_112
              · have h := zz_pos c_72 h
                refine lv_iload_n hx hb dX7_border_75 rfl (lv_at hl 2 rfl) ?_
                refine lv_iconst (v := (2 : Int32)) hx hb dX7_border_76 (by decide) ?_
                refine lv_icmp_ne (tgt := 86) hx hb dX7_border_77 (by decide) (fun c_77 => ?_) (fun c_77 => ?_)
                · have h := zz_neg c_77 h
                  refine lv_lconst (v := (1 : Int64)) hx hb dX7_border_86 (by decide) ?_
                  exact W.lret hx hb hr (fun t ht hW => ⟨by rw [← some_of h], by rw [ht, ← some_of h]; exact hP, hS.F ht⟩) hS.2.2 dX7_border_87
                · have h := zz_pos c_77 h
                  refine lv_ldc2 hx hb hown k_154 dX7_border_80 ?_
                  refine lv_goto (tgt := 87) hx hb dX7_border_83 (by decide) ?_
                  exact W.lret hx hb hr (fun t ht hW => ⟨by rw [← some_of h], by rw [ht, ← some_of h]; exact hP, hS.F ht⟩) hS.2.2 dX7_border_87
            · have h := zz_neg c_42 h
              refine lv_iload_n hx hb dX7_border_45 rfl (lv_at hl 2 rfl) ?_
              refine lv_if_ne (tgt := 58) hx hb dX7_border_46 (by decide) (fun c_46 => ?_) (fun c_46 => ?_)
              · have h := zz_neg c_46 h
                refine lv_aload_n hx hb dX7_border_58 rfl (lv_at hl 0 rfl) ?_
                refine mG_25 C in_7 hP k_88 dX7_border_59 ?_
                refine lv_iload_n hx hb dX7_border_62 rfl (lv_at hl 1 rfl) ?_
                obtain ⟨b_63, h⟩ := chk_of h
                refine mL_25 C hP b_63 dX7_border_63 ?_
                exact W.lret hx hb hr (fun t ht hW => ⟨by rw [← some_of h], by rw [ht, ← some_of h]; exact hP, hS.F ht⟩) hS.2.2 dX7_border_64
              · have h := zz_pos c_46 h
                refine lv_aload_n hx hb dX7_border_49 rfl (lv_at hl 0 rfl) ?_
                refine mG_24 C in_7 hP k_85 dX7_border_50 ?_
                refine lv_iload_n hx hb dX7_border_53 rfl (lv_at hl 1 rfl) ?_
                obtain ⟨b_54, h⟩ := chk_of h
                refine mL_24 C hP b_54 dX7_border_54 ?_
                refine lv_goto (tgt := 64) hx hb dX7_border_55 (by decide) ?_
                exact W.lret hx hb hr (fun t ht hW => ⟨by rw [← some_of h], by rw [ht, ← some_of h]; exact hP, hS.F ht⟩) hS.2.2 dX7_border_64
          · have h := zz_neg c_33 h
            refine lv_ldc2 hx hb hown k_222 dX7_border_36 ?_
            exact W.lret hx hb hr (fun t ht hW => ⟨by rw [← some_of h], by rw [ht, ← some_of h]; exact hP, hS.F ht⟩) hS.2.2 dX7_border_39
      · have h := zz_neg c_13 h
        refine lv_ldc2 hx hb hown k_222 dX7_border_16 ?_
        exact W.lret hx hb hr (fun t ht hW => ⟨by rw [← some_of h], by rw [ht, ← some_of h]; exact hP, hS.F ht⟩) hS.2.2 dX7_border_19
def fM_keen (N : Nat) (σ : MSt) (x1 : Int32) : Option (Int32 × MSt) := (fM_isWhole N σ).bind fun r_1 => (if r_1 = 0 then (if 0 ≤ x1 then some ((-3 : Int32), σ) else some ((-1 : Int32), σ)) else (fM_span N σ).bind fun r_19 => (if x1 < 0 then some ((-1 : Int32), r_19) else (if x1 < (r_19.1 26) then chk x1 5000 (chk (r_19.2.2.1 23 x1.toNatClampNeg) 5000 ((fM_all N r_19).bind fun r_49 => (fM_kept N r_19 (r_19.2.2.1 17 (r_19.2.2.1 23 x1.toNatClampNeg).toNatClampNeg) r_49).bind fun r_52 => some (r_52.1, r_52.2))) else some ((-1 : Int32), r_19))))
set_option maxRecDepth 100000 in
set_option maxHeartbeats 4000000 in
theorem cM_keen {l : Launch} {D : va_G} {κ : Nat → ClassId} {ρ : Nat → Nat} {sz : Nat} {N : Nat} {σ : MSt} {x1 : Int32} {q : Int32 × MSt} (h : fM_keen N σ x1 = some q) : Met l yX7_keen wsX7_keen ({ frames := 6, cells := 0, slots := 0, locals := 151 } : Room) (va_Pc [.ref (ρ 40), .int x1] (PM D κ ρ sz σ)) (QM D κ ρ sz q.2 (some (.int q.1))) 0 0 (AM ρ sz) := by
  refine mMetM (ret := (some .int)) (by decide) rfl rfl (Nat.le_of_ble_eq_true rfl) ?_
  intro p e s m below meth c ls C hr hlk hD hP hl
  have hS : va_S (AM ρ s.heap.size) s.heap s.heap [] := va_S.rf
  have hl : lv_has ls 2 [(0, .ref (ρ 40)), (1, .int x1)] := hl
  unfold fM_keen at h
  have hx := C.1.1
  have hb := C.1.2.1
  have hts := C.1.2.2.2.2
  have hown := C.1.2.2.2.1
  have k_63 := hts (.fieldLink RX7 63 "PlanCabinetModel" "code" "[I") (by decide +kernel)
  have k_82 := hts (.fieldLink RX7 82 "PlanCabinetModel" "keen" "[I") (by decide +kernel)
  have k_91 := hts (.fieldLink RX7 91 "PlanCabinetModel" "spans" "I") (by decide +kernel)
  have in_7 : ∀ w ∈ wsX70, w ∈ wsX7_keen := by decide +kernel
  refine lv_aload_n hx hb dX7_keen_0 rfl (lv_at hl 0 rfl) ?_
  obtain ⟨r_1, e_1, h⟩ := bnd_of h
  refine callP (W.runV (As := []) C.1 (cM_isWhole e_1) (cwV 0 hts gX7_keen_X7_isWhole rfl rfl rfl (by decide +kernel) ⟨by decide, by decide⟩) (mPreR C.2 hP _) rfl rfl hl.1 rfl (lv_room (Nat.le_of_ble_eq_true rfl)) dX7_keen_1 ⟨Nat.zero_le _, Nat.zero_le _⟩) ?_
  refine lv_if_ne (tgt := 18) hx hb dX7_keen_4 (by decide) (fun c_4 => ?_) (fun c_4 => ?_)
  · have h := zz_neg c_4 h
    refine lv_aload_n hx hb dX7_keen_18 rfl (lv_at hl 0 rfl) ?_
    obtain ⟨r_19, e_19, h⟩ := bnd_of h
    refine mCall (va_runV (As := []) C.1 (cM_span e_19) (cwV 0 hts gX7_keen_X7_span rfl rfl rfl (by decide +kernel) ⟨by decide, by decide⟩) (mPreM C.2 hP hD _) rfl rfl hl.1 rfl (lv_room (Nat.le_of_ble_eq_true rfl)) dX7_keen_19 ⟨Nat.zero_le _, Nat.zero_le _⟩) hS hD (fun _ h => Or.inr h) (fun H locs hP hS => ?_)
    refine lv_iload_n hx hb dX7_keen_22 rfl (lv_at hl 1 rfl) ?_
    refine lv_if_lt (tgt := 34) hx hb dX7_keen_23 (by decide) (fun c_23 => ?_) (fun c_23 => ?_)
    · have h := zz_pos c_23 h
      refine lv_iconst (v := (-1 : Int32)) hx hb dX7_keen_34 (by decide) ?_
      exact W.iret hx hb hr (fun t ht hW => ⟨by rw [← some_of h], by rw [ht, ← some_of h]; exact hP, hS.F ht⟩) hS.2.2 dX7_keen_35
    · have h := zz_neg c_23 h
      refine lv_iload_n hx hb dX7_keen_26 rfl (lv_at hl 1 rfl) ?_
      refine lv_aload_n hx hb dX7_keen_27 rfl (lv_at hl 0 rfl) ?_
      refine mG_26 C in_7 hP k_91 dX7_keen_28 ?_
      refine lv_icmp_lt (tgt := 36) hx hb dX7_keen_31 (by decide) (fun c_31 => ?_) (fun c_31 => ?_)
      · have h := zz_pos c_31 h
        refine lv_aload_n hx hb dX7_keen_36 rfl (lv_at hl 0 rfl) ?_
        refine lv_aload_n hx hb dX7_keen_37 rfl (lv_at hl 0 rfl) ?_
        refine mG_17 C in_7 hP k_63 dX7_keen_38 ?_
        refine lv_aload_n hx hb dX7_keen_41 rfl (lv_at hl 0 rfl) ?_
        refine mG_23 C in_7 hP k_82 dX7_keen_42 ?_
        refine lv_iload_n hx hb dX7_keen_45 rfl (lv_at hl 1 rfl) ?_
        obtain ⟨b_46, h⟩ := chk_of h
        refine mL_23 C hP b_46 dX7_keen_46 ?_
        obtain ⟨b_47, h⟩ := chk_of h
        refine mL_17 C hP b_47 dX7_keen_47 ?_
        refine lv_aload_n hx hb dX7_keen_48 rfl (lv_at hl 0 rfl) ?_
        obtain ⟨r_49, e_49, h⟩ := bnd_of h
        refine callP (W.runV (As := []) C.1 (cM_all e_49) (cwV 0 hts gX7_keen_X7_all rfl rfl rfl (by decide +kernel) ⟨by decide, by decide⟩) (mPreR C.2 hP _) rfl rfl hl.1 rfl (lv_room (Nat.le_of_ble_eq_true rfl)) dX7_keen_49 ⟨Nat.zero_le _, Nat.zero_le _⟩) ?_
        obtain ⟨r_52, e_52, h⟩ := bnd_of h
        refine mCall (va_runV (As := [.int (r_19.2.2.1 17 (r_19.2.2.1 23 x1.toNatClampNeg).toNatClampNeg), .int r_49]) C.1 (cM_kept e_52) (cwV 2 hts gX7_keen_X7_kept rfl rfl rfl (by decide +kernel) ⟨by decide, by decide⟩) (mPreM C.2 hP hD _) rfl rfl hl.1 rfl (lv_room (Nat.le_of_ble_eq_true rfl)) dX7_keen_52 ⟨Nat.zero_le _, Nat.zero_le _⟩) hS hD (fun _ h => Or.inr h) (fun H locs hP hS => ?_)
        exact W.iret hx hb hr (fun t ht hW => ⟨by rw [← some_of h], by rw [ht, ← some_of h]; exact hP, hS.F ht⟩) hS.2.2 dX7_keen_55
      · have h := zz_neg c_31 h
        refine lv_iconst (v := (-1 : Int32)) hx hb dX7_keen_34 (by decide) ?_
        exact W.iret hx hb hr (fun t ht hW => ⟨by rw [← some_of h], by rw [ht, ← some_of h]; exact hP, hS.F ht⟩) hS.2.2 dX7_keen_35
  · have h := zz_pos c_4 h
    refine lv_iload_n hx hb dX7_keen_7 rfl (lv_at hl 1 rfl) ?_
    refine lv_if_ge (tgt := 15) hx hb dX7_keen_8 (by decide) (fun c_8 => ?_) (fun c_8 => ?_)
    · have h := zz_pos c_8 h
      refine lv_bipush (v := (-3 : Int32)) hx hb dX7_keen_15 (by decide) ?_
      exact W.iret hx hb hr (fun t ht hW => ⟨by rw [← some_of h], by rw [ht, ← some_of h]; exact hP, hS.F ht⟩) hS.2.2 dX7_keen_17
    · have h := zz_neg c_8 h
      refine lv_iconst (v := (-1 : Int32)) hx hb dX7_keen_11 (by decide) ?_
      refine lv_goto (tgt := 17) hx hb dX7_keen_12 (by decide) ?_
      exact W.iret hx hb hr (fun t ht hW => ⟨by rw [← some_of h], by rw [ht, ← some_of h]; exact hP, hS.F ht⟩) hS.2.2 dX7_keen_17
def fM_isNear (N : Nat) (σ : MSt) (x1 : Int32) (x2 : Int32) (x3 : Int32) : Option (Int32) := (fM_at N σ x1 x2).bind fun r_6 => (fM_bestAt N σ x2).bind fun r_19 => (fM_at N σ r_19 x2).bind fun r_23 => (if 0 < (lg_cmp ((100 : Int64) * r_6) (((100 : Int64) + x3.toInt64) * r_23)) then some (0 : Int32) else some (1 : Int32))
set_option maxRecDepth 100000 in
set_option maxHeartbeats 4000000 in
theorem cM_isNear {l : Launch} {D : va_G} {κ : Nat → ClassId} {ρ : Nat → Nat} {N : Nat} {σ : MSt} {x1 : Int32} {x2 : Int32} {x3 : Int32} {r : Int32} (h : fM_isNear N σ x1 x2 x3 = some r) : Met l yX7_isNear wsX7_isNear ({ frames := 2, cells := 0, slots := 0, locals := 45 } : Room) (va_Pc [.ref (ρ 40), .int x1, .int x2, .int x3] (PR D κ ρ σ)) (PU (some (.int r))) 0 0 (fun _ => False) := by
  refine mMetR (ret := (some .boolean)) (by decide) rfl rfl (Nat.le_of_ble_eq_true rfl) ?_
  intro p e s m below meth c ls C hr hlk hP hl
  have hl : lv_has ls 4 [(0, .ref (ρ 40)), (1, .int x1), (2, .int x2), (3, .int x3)] := hl
  unfold fM_isNear at h
  have hx := C.1.1
  have hb := C.1.2.1
  have hts := C.1.2.2.2.2
  have hown := C.1.2.2.2.1
  have k_243 := hts (.constantLong RX7 243 (100)) (by decide +kernel)
  refine lv_ldc2 hx hb hown k_243 dX7_isNear_0 ?_
  refine lv_aload_n hx hb dX7_isNear_3 rfl (lv_at hl 0 rfl) ?_
  refine lv_iload_n hx hb dX7_isNear_4 rfl (lv_at hl 1 rfl) ?_
  refine lv_iload_n hx hb dX7_isNear_5 rfl (lv_at hl 2 rfl) ?_
  obtain ⟨r_6, e_6, h⟩ := bnd_of h
  refine callP (W.runV (As := [.int x1, .int x2]) C.1 (cM_at e_6) (cwV 2 hts gX7_isNear_X7_at rfl rfl rfl (by decide +kernel) ⟨by decide, by decide⟩) (mPreR C.2 hP _) rfl rfl hl.1 rfl (lv_room (Nat.le_of_ble_eq_true rfl)) dX7_isNear_6 ⟨Nat.zero_le _, Nat.zero_le _⟩) ?_
  refine lv_lmul hx hb dX7_isNear_9 ?_
  refine lv_ldc2 hx hb hown k_243 dX7_isNear_10 ?_
  refine lv_iload_n hx hb dX7_isNear_13 rfl (lv_at hl 3 rfl) ?_
  refine lv_i2l hx hb dX7_isNear_14 rfl ?_
  refine lv_ladd hx hb dX7_isNear_15 ?_
  refine lv_aload_n hx hb dX7_isNear_16 rfl (lv_at hl 0 rfl) ?_
  refine lv_aload_n hx hb dX7_isNear_17 rfl (lv_at hl 0 rfl) ?_
  refine lv_iload_n hx hb dX7_isNear_18 rfl (lv_at hl 2 rfl) ?_
  obtain ⟨r_19, e_19, h⟩ := bnd_of h
  refine callP (W.runV (As := [.int x2]) C.1 (cM_bestAt e_19) (cwV 1 hts gX7_isNear_X7_bestAt rfl rfl rfl (by decide +kernel) ⟨by decide, by decide⟩) (mPreR C.2 hP _) rfl rfl hl.1 rfl (lv_room (Nat.le_of_ble_eq_true rfl)) dX7_isNear_19 ⟨Nat.zero_le _, Nat.zero_le _⟩) ?_
  refine lv_iload_n hx hb dX7_isNear_22 rfl (lv_at hl 2 rfl) ?_
  obtain ⟨r_23, e_23, h⟩ := bnd_of h
  refine callP (W.runV (As := [.int r_19, .int x2]) C.1 (cM_at e_23) (cwV 2 hts gX7_isNear_X7_at rfl rfl rfl (by decide +kernel) ⟨by decide, by decide⟩) (mPreR C.2 hP _) rfl rfl hl.1 rfl (lv_room (Nat.le_of_ble_eq_true rfl)) dX7_isNear_23 ⟨Nat.zero_le _, Nat.zero_le _⟩) ?_
  refine lv_lmul hx hb dX7_isNear_26 ?_
  refine W.lcmp hx hb dX7_isNear_27 ?_
  refine lv_if_gt (tgt := 35) hx hb dX7_isNear_28 (by decide) (fun c_28 => ?_) (fun c_28 => ?_)
  · have h := zz_pos c_28 h
    refine lv_iconst (v := (0 : Int32)) hx hb dX7_isNear_35 (by decide) ?_
    exact W.zret (ty := .boolean) hx hb hr (by decide +kernel) (fun t ht hW => ⟨by rw [some_of h], ht⟩) (fun _ h => by cases h) dX7_isNear_36
  · have h := zz_neg c_28 h
    refine lv_iconst (v := (1 : Int32)) hx hb dX7_isNear_31 (by decide) ?_
    refine lv_goto (tgt := 36) hx hb dX7_isNear_32 (by decide) ?_
    exact W.zret (ty := .boolean) hx hb hr (by decide +kernel) (fun t ht hW => ⟨by rw [some_of h], ht⟩) (fun _ h => by cases h) dX7_isNear_36
