/-! the class, Z: sizeWithoutX, measure, sizeA, sizeB, joinA, joinB, readA, reading, joining -/
def fZ_sizeWithoutX_L7 (N : Nat) (σ : CSt) (K41 : Int32 → Int64 → Option (Int64)) : Nat → Int32 → Int64 → Int32 → Option (Int64)
  | 0, _, _, _ => none
  | n + 1, x1, x2, x4 => (if (4 : Int32) ≤ x4 then K41 x1 x2 else (if ((x1 >>> (x4 &&& 31)) &&& (1 : Int32)) = 0 then fZ_sizeWithoutX_L7 N σ K41 n x1 x2 (x4 + 1) else (fQ_rowsOf N σ x4).bind fun r_29 => fZ_sizeWithoutX_L7 N σ K41 n x1 (x2 * r_29.toInt64) (x4 + 1)))
def fZ_sizeWithoutX_L44 (N : Nat) (σ : CSt) : Nat → Int32 → Int64 → Int32 → Option (Int64)
  | 0, _, _, _ => none
  | n + 1, x1, x2, x4 => (if (σ.1 301) ≤ x4 then some x2 else (fQ_isInside N σ x4 x1).bind fun r_63 => (if r_63 = 0 then fZ_sizeWithoutX_L44 N σ n x1 x2 (x4 + 1) else nz64 (4 : Int64) ((fQ_quartersOf N σ x4).bind fun r_80 => fZ_sizeWithoutX_L44 N σ n x1 ((x2 / (4 : Int64)) * r_80.toInt64) (x4 + 1))))
def fZ_sizeWithoutX (N : Nat) (σ : CSt) (x1 : Int32) : Option (Int64) := fZ_sizeWithoutX_L7 N σ (fun (x1 : Int32) (x2 : Int64) => fZ_sizeWithoutX_L44 N σ N x1 x2 (0 : Int32)) N x1 (256 : Int64) (0 : Int32)
set_option maxRecDepth 100000 in
set_option maxHeartbeats 4000000 in
theorem wZ_sizeWithoutX_L7 {p : Program} {l : Launch} {e : Env} {s : State} {m : MethodId} {args : Array Value} {below : List Frame} {meth : Method} {c : Code} {D : va_G} {κ : Nat → ClassId} {ρ : Nat → Nat} {g : Gh} {σ : CSt} (C : CallFix p m c cX2_sizeWithoutX 5 s args wsX2_sizeWithoutX RX2) (hr : meth.sig.returnType = (some .long)) (hlk : meth.locks = false) (hw : RC D κ ρ g σ s s.heap) {N : Nat} {r : Int64} {K41 : Int32 → Int64 → Option (Int64)} : ∀ (n : Nat) (x1 : Int32) (x2 : Int64) (x4 : Int32) (ls : Array Slot), fZ_sizeWithoutX_L7 N σ K41 n x1 x2 x4 = some r → lv_has ls 5 [(0, .ref (ρ 299)), (1, .int x1), (2, .long x2), (4, .int x4)] → (∀ (x1 : Int32) (x2 : Int64) (ls : Array Slot), K41 x1 x2 = some r → lv_has ls 5 [(0, .ref (ρ 299)), (1, .int x1), (2, .long x2)] → W p l e ({ frames := 2, cells := 0, slots := 0, locals := 43 } : Room) s m args below meth c s.heap [] 0 0 (MQ below (PU (some (.long r))) args s 0 0 (fun _ => False)) (F0 m 41 ls [])) → W p l e ({ frames := 2, cells := 0, slots := 0, locals := 43 } : Room) s m args below meth c s.heap [] 0 0 (MQ below (PU (some (.long r))) args s 0 0 (fun _ => False)) (F0 m 7 ls []) := by
  have hx := C.1
  have hb := C.2.1
  have hts := C.2.2.2.2
  have hown := C.2.2.2.1
  have k_18 := hts (.fieldLink RX2 18 "PlanCabinet$Prices" "question" "LPlanCabinet$Question;") (by decide +kernel)
  have in_2 : ∀ w ∈ wsX20, w ∈ wsX2_sizeWithoutX := by decide +kernel
  intro n
  induction n with
  | zero =>
    intro x1 x2 x4 ls h hl hK41
    rw [fZ_sizeWithoutX_L7] at h
    cases h
  | succ n ih =>
    intro x1 x2 x4 ls h hl hK41
    rw [fZ_sizeWithoutX_L7] at h
    refine lv_iload hx hb dX2_sizeWithoutX_7 (lv_at hl 3 rfl) ?_
    refine lv_iconst (v := (4 : Int32)) hx hb dX2_sizeWithoutX_9 (by decide) ?_
    refine lv_icmp_ge (tgt := 41) hx hb dX2_sizeWithoutX_10 (by decide) (fun c_10 => ?_) (fun c_10 => ?_)
    · have h := zz_pos c_10 h
      exact hK41 _ _ _ h (lv_sub hl [0, 1, 2] rfl)
    · have h := zz_neg c_10 h
      refine lv_iload_n hx hb dX2_sizeWithoutX_13 rfl (lv_at hl 1 rfl) ?_
      refine lv_iload hx hb dX2_sizeWithoutX_14 (lv_at hl 3 rfl) ?_
      refine lv_ishr hx hb dX2_sizeWithoutX_16 ?_
      refine lv_iconst (v := (1 : Int32)) hx hb dX2_sizeWithoutX_17 (by decide) ?_
      refine lv_iand hx hb dX2_sizeWithoutX_18 ?_
      refine lv_if_eq (tgt := 35) hx hb dX2_sizeWithoutX_19 (by decide) (fun c_19 => ?_) (fun c_19 => ?_)
      · have h := zz_pos c_19 h
        refine lv_iinc (v := (x4 + 1)) (lv' := [(4, .int (x4 + 1)), (0, .ref (ρ 299)), (1, .int x1), (2, .long x2)]) hx hb dX2_sizeWithoutX_35 hl (k := 3) rfl rfl (by decide) rfl (fun ls hl => ?_)
        refine lv_goto (tgt := 7) hx hb dX2_sizeWithoutX_38 (by decide) ?_
        exact ih _ _ _ _ h (lv_sub hl [1, 2, 3, 0] rfl) hK41
      · have h := zz_neg c_19 h
        refine lv_lload_n hx hb dX2_sizeWithoutX_22 rfl (lv_at hl 2 rfl) ?_
        refine lv_aload_n hx hb dX2_sizeWithoutX_23 rfl (lv_at hl 0 rfl) ?_
        refine cG_200 C in_2 hw k_18 dX2_sizeWithoutX_24 ?_
        refine lv_iload hx hb dX2_sizeWithoutX_27 (lv_at hl 3 rfl) ?_
        obtain ⟨r_29, e_29, h⟩ := bnd_of h
        refine callP (W.runV (As := [.int x4]) C (cQ_rowsOf e_29) (cwV 1 hts gX2_sizeWithoutX_X3_rowsOf rfl rfl rfl (by decide +kernel) ⟨by decide, by decide⟩) (preR (recv_399 hw) hw) rfl rfl hl.1 rfl (lv_room (Nat.le_of_ble_eq_true rfl)) dX2_sizeWithoutX_29 ⟨Nat.zero_le _, Nat.zero_le _⟩) ?_
        refine lv_i2l hx hb dX2_sizeWithoutX_32 rfl ?_
        refine lv_lmul hx hb dX2_sizeWithoutX_33 ?_
        refine lv_lstore_n (lv' := [(2, .long (x2 * r_29.toInt64)), (0, .ref (ρ 299)), (1, .int x1), (4, .int x4)]) hx hb dX2_sizeWithoutX_34 rfl hl (by decide) rfl (fun ls hl => ?_)
        refine lv_iinc (v := (x4 + 1)) (lv' := [(4, .int (x4 + 1)), (2, .long (x2 * r_29.toInt64)), (0, .ref (ρ 299)), (1, .int x1)]) hx hb dX2_sizeWithoutX_35 hl (k := 3) rfl rfl (by decide) rfl (fun ls hl => ?_)
        refine lv_goto (tgt := 7) hx hb dX2_sizeWithoutX_38 (by decide) ?_
        exact ih _ _ _ _ h (lv_sub hl [2, 3, 1, 0] rfl) hK41
set_option maxRecDepth 100000 in
set_option maxHeartbeats 4000000 in
theorem wZ_sizeWithoutX_L44 {p : Program} {l : Launch} {e : Env} {s : State} {m : MethodId} {args : Array Value} {below : List Frame} {meth : Method} {c : Code} {D : va_G} {κ : Nat → ClassId} {ρ : Nat → Nat} {g : Gh} {σ : CSt} (C : CallFix p m c cX2_sizeWithoutX 5 s args wsX2_sizeWithoutX RX2) (hr : meth.sig.returnType = (some .long)) (hlk : meth.locks = false) (hw : RC D κ ρ g σ s s.heap) {N : Nat} {r : Int64} : ∀ (n : Nat) (x1 : Int32) (x2 : Int64) (x4 : Int32) (ls : Array Slot), fZ_sizeWithoutX_L44 N σ n x1 x2 x4 = some r → lv_has ls 5 [(0, .ref (ρ 299)), (1, .int x1), (2, .long x2), (4, .int x4)] → W p l e ({ frames := 2, cells := 0, slots := 0, locals := 43 } : Room) s m args below meth c s.heap [] 0 0 (MQ below (PU (some (.long r))) args s 0 0 (fun _ => False)) (F0 m 44 ls []) := by
  have hx := C.1
  have hb := C.2.1
  have hts := C.2.2.2.2
  have hown := C.2.2.2.1
  have k_18 := hts (.fieldLink RX2 18 "PlanCabinet$Prices" "question" "LPlanCabinet$Question;") (by decide +kernel)
  have k_42 := hts (.fieldLink RX2 42 "PlanCabinet$Question" "pairingCount" "I") (by decide +kernel)
  have k_45 := hts (.constantLong RX2 45 (4)) (by decide +kernel)
  have in_2 : ∀ w ∈ wsX20, w ∈ wsX2_sizeWithoutX := by decide +kernel
  have in_3 : ∀ w ∈ wsX30, w ∈ wsX2_sizeWithoutX := by decide +kernel
  intro n
  induction n with
  | zero =>
    intro x1 x2 x4 ls h hl
    rw [fZ_sizeWithoutX_L44] at h
    cases h
  | succ n ih =>
    intro x1 x2 x4 ls h hl
    rw [fZ_sizeWithoutX_L44] at h
    refine lv_iload hx hb dX2_sizeWithoutX_44 (lv_at hl 3 rfl) ?_
    refine lv_aload_n hx hb dX2_sizeWithoutX_46 rfl (lv_at hl 0 rfl) ?_
    refine cG_200 C in_2 hw k_18 dX2_sizeWithoutX_47 ?_
    refine cG_301 C in_3 hw k_42 dX2_sizeWithoutX_50 ?_
    refine lv_icmp_ge (tgt := 92) hx hb dX2_sizeWithoutX_53 (by decide) (fun c_53 => ?_) (fun c_53 => ?_)
    · have h := zz_pos c_53 h
      refine lv_lload_n hx hb dX2_sizeWithoutX_92 rfl (lv_at hl 2 rfl) ?_
      exact W.lret hx hb hr (fun t ht hW => ⟨by rw [some_of h], ht⟩) (fun _ h => by cases h) dX2_sizeWithoutX_93
    · have h := zz_neg c_53 h
      refine lv_aload_n hx hb dX2_sizeWithoutX_56 rfl (lv_at hl 0 rfl) ?_
      refine cG_200 C in_2 hw k_18 dX2_sizeWithoutX_57 ?_
      refine lv_iload hx hb dX2_sizeWithoutX_60 (lv_at hl 3 rfl) ?_
      refine lv_iload_n hx hb dX2_sizeWithoutX_62 rfl (lv_at hl 1 rfl) ?_
      obtain ⟨r_63, e_63, h⟩ := bnd_of h
      refine callP (W.runV (As := [.int x4, .int x1]) C (cQ_isInside e_63) (cwV 2 hts gX2_sizeWithoutX_X3_isInside rfl rfl rfl (by decide +kernel) ⟨by decide, by decide⟩) (preR (recv_399 hw) hw) rfl rfl hl.1 rfl (lv_room (Nat.le_of_ble_eq_true rfl)) dX2_sizeWithoutX_63 ⟨Nat.zero_le _, Nat.zero_le _⟩) ?_
      refine lv_if_eq (tgt := 86) hx hb dX2_sizeWithoutX_66 (by decide) (fun c_66 => ?_) (fun c_66 => ?_)
      · have h := zz_pos c_66 h
        refine lv_iinc (v := (x4 + 1)) (lv' := [(4, .int (x4 + 1)), (0, .ref (ρ 299)), (1, .int x1), (2, .long x2)]) hx hb dX2_sizeWithoutX_86 hl (k := 3) rfl rfl (by decide) rfl (fun ls hl => ?_)
        refine lv_goto (tgt := 44) hx hb dX2_sizeWithoutX_89 (by decide) ?_
        exact ih _ _ _ _ h (lv_sub hl [1, 2, 3, 0] rfl)
      · have h := zz_neg c_66 h
        refine lv_lload_n hx hb dX2_sizeWithoutX_69 rfl (lv_at hl 2 rfl) ?_
        refine lv_ldc2 hx hb hown k_45 dX2_sizeWithoutX_70 ?_
        obtain ⟨b_73, h⟩ := nz64_of h
        refine lv_ldiv hx hb dX2_sizeWithoutX_73 b_73 ?_
        refine lv_aload_n hx hb dX2_sizeWithoutX_74 rfl (lv_at hl 0 rfl) ?_
        refine cG_200 C in_2 hw k_18 dX2_sizeWithoutX_75 ?_
        refine lv_iload hx hb dX2_sizeWithoutX_78 (lv_at hl 3 rfl) ?_
        obtain ⟨r_80, e_80, h⟩ := bnd_of h
        refine callP (W.runV (As := [.int x4]) C (cQ_quartersOf e_80) (cwV 1 hts gX2_sizeWithoutX_X3_quartersOf rfl rfl rfl (by decide +kernel) ⟨by decide, by decide⟩) (preR (recv_399 hw) hw) rfl rfl hl.1 rfl (lv_room (Nat.le_of_ble_eq_true rfl)) dX2_sizeWithoutX_80 ⟨Nat.zero_le _, Nat.zero_le _⟩) ?_
        refine lv_i2l hx hb dX2_sizeWithoutX_83 rfl ?_
        refine lv_lmul hx hb dX2_sizeWithoutX_84 ?_
        refine lv_lstore_n (lv' := [(2, .long ((x2 / (4 : Int64)) * r_80.toInt64)), (0, .ref (ρ 299)), (1, .int x1), (4, .int x4)]) hx hb dX2_sizeWithoutX_85 rfl hl (by decide) rfl (fun ls hl => ?_)
        refine lv_iinc (v := (x4 + 1)) (lv' := [(4, .int (x4 + 1)), (2, .long ((x2 / (4 : Int64)) * r_80.toInt64)), (0, .ref (ρ 299)), (1, .int x1)]) hx hb dX2_sizeWithoutX_86 hl (k := 3) rfl rfl (by decide) rfl (fun ls hl => ?_)
        refine lv_goto (tgt := 44) hx hb dX2_sizeWithoutX_89 (by decide) ?_
        exact ih _ _ _ _ h (lv_sub hl [2, 3, 1, 0] rfl)
set_option maxRecDepth 100000 in
set_option maxHeartbeats 4000000 in
theorem cZ_sizeWithoutX {l : Launch} {D : va_G} {κ : Nat → ClassId} {ρ : Nat → Nat} {g : Gh} {N : Nat} {σ : CSt} {x1 : Int32} {r : Int64} (h : fZ_sizeWithoutX N σ x1 = some r) : Met l yX2_sizeWithoutX wsX2_sizeWithoutX ({ frames := 2, cells := 0, slots := 0, locals := 43 } : Room) (va_Pc [.ref (ρ 299), .int x1] (PRC D κ ρ g σ)) (PU (some (.long r))) 0 0 (fun _ => False) := by
  refine cMetR (ret := (some .long)) (by decide) rfl rfl (Nat.le_of_ble_eq_true rfl) ?_
  intro p e s m below meth c ls C hr hlk hw hl
  have hl : lv_has ls 5 [(0, .ref (ρ 299)), (1, .int x1)] := hl
  unfold fZ_sizeWithoutX at h
  have hx := C.1
  have hb := C.2.1
  have hts := C.2.2.2.2
  have hown := C.2.2.2.1
  have k_36 := hts (.constantLong RX2 36 (256)) (by decide +kernel)
  refine lv_ldc2 hx hb hown k_36 dX2_sizeWithoutX_0 ?_
  refine lv_lstore_n (lv' := [(2, .long (256 : Int64)), (0, .ref (ρ 299)), (1, .int x1)]) hx hb dX2_sizeWithoutX_3 rfl hl (by decide) rfl (fun ls hl => ?_)
  refine lv_iconst (v := (0 : Int32)) hx hb dX2_sizeWithoutX_4 (by decide) ?_
  refine lv_istore (lv' := [(4, .int (0 : Int32)), (2, .long (256 : Int64)), (0, .ref (ρ 299)), (1, .int x1)]) hx hb dX2_sizeWithoutX_5 hl (by decide) rfl (fun ls hl => ?_)
  refine wZ_sizeWithoutX_L7 C hr hlk hw _ _ _ _ _ h (lv_sub hl [2, 3, 1, 0] rfl) ?_
  intro x1 x2 ls h hl
  refine lv_iconst (v := (0 : Int32)) hx hb dX2_sizeWithoutX_41 (by decide) ?_
  refine lv_istore (lv' := [(4, .int (0 : Int32)), (0, .ref (ρ 299)), (1, .int x1), (2, .long x2)]) hx hb dX2_sizeWithoutX_42 hl (by decide) rfl (fun ls hl => ?_)
  exact wZ_sizeWithoutX_L44 C hr hlk hw _ _ _ _ _ h (lv_sub hl [1, 2, 3, 0] rfl)
def fZ_measure_J46 (N : Nat) (K2 : CSt → Int32 → Option (CSt)) (σ : CSt) (x1 : Int32) (x2 : Int64) (x4 : Int32) (y1 : Int32) (y2 : Int64) : Option (CSt) := chk y1 16 ((if x4 = 0 then chk x1 16 (K2 (cB (cB σ 201 y1.toNatClampNeg y2) 202 x1.toNatClampNeg (0 : Int64)) (x1 + 1)) else chk x1 16 (K2 (cB (cB σ 201 y1.toNatClampNeg y2) 202 x1.toNatClampNeg x2) (x1 + 1))))
def fZ_measure_L2 (N : Nat) : Nat → CSt → Int32 → Option (CSt)
  | 0, _, _ => none
  | n + 1, σ, x1 => (if (16 : Int32) ≤ x1 then some σ else (fZ_sizeWithoutX N σ x1).bind fun r_10 => (fQ_isInside N σ (σ.1 302) x1).bind fun r_26 => (if r_26 = 0 then fZ_measure_J46 N (fun (σ : CSt) (x1 : Int32) => fZ_measure_L2 N n σ x1) σ x1 r_10 r_26 x1 r_10 else fZ_measure_J46 N (fun (σ : CSt) (x1 : Int32) => fZ_measure_L2 N n σ x1) σ x1 r_10 r_26 x1 (0 : Int64)))
def fZ_measure (N : Nat) (σ : CSt) : Option (CSt) := fZ_measure_L2 N N σ (0 : Int32)
set_option maxRecDepth 100000 in
set_option maxHeartbeats 4000000 in
theorem wZ_measure_J46 {p : Program} {l : Launch} {e : Env} {s : State} {m : MethodId} {args : Array Value} {below : List Frame} {meth : Method} {c : Code} {D : va_G} {κ : Nat → ClassId} {ρ : Nat → Nat} {g0 : Gh} (C : CallFix p m c cX2_measure 5 s args wsX2_measure RX2) (hr : meth.sig.returnType = none) (hlk : meth.locks = false) {N : Nat} {q : CSt} {K2 : CSt → Int32 → Option (CSt)} : ∀ (σ : CSt) (x1 : Int32) (x2 : Int64) (x4 : Int32) (y1 : Int32) (y2 : Int64) (g : Gh) (H : Heap) (locs : List Loc) (ls : Array Slot), fZ_measure_J46 N K2 σ x1 x2 x4 y1 y2 = some q → WC D κ ρ (AC ρ g0 s.heap.size) s.heap g σ s H locs → sub g0 g → lv_has ls 5 [(0, .ref (ρ 299)), (1, .int x1), (2, .long x2), (4, .int x4)] → (∀ (σ : CSt) (x1 : Int32) (g : Gh) (H : Heap) (locs : List Loc) (ls : Array Slot), K2 σ x1 = some q → WC D κ ρ (AC ρ g0 s.heap.size) s.heap g σ s H locs → sub g0 g → lv_has ls 5 [(0, .ref (ρ 299)), (1, .int x1)] → W p l e ({ frames := 3, cells := 0, slots := 0, locals := 67 } : Room) s m args below meth c H locs 0 0 (MQ below (QC D κ ρ s.heap.size g0 q none) args s 0 0 (AC ρ g0 s.heap.size)) (F0 m 2 ls [])) → W p l e ({ frames := 3, cells := 0, slots := 0, locals := 67 } : Room) s m args below meth c H locs 0 0 (MQ below (QC D κ ρ s.heap.size g0 q none) args s 0 0 (AC ρ g0 s.heap.size)) (F0 m 46 ls [.long y2, .int y1, .ref (ρ 201)]) := by
  have hx := C.1
  have hb := C.2.1
  have hts := C.2.2.2.2
  have hown := C.2.2.2.1
  have k_15 := hts (.fieldLink RX2 15 "PlanCabinet$Prices" "sizesB" "[J") (by decide +kernel)
  have in_2 : ∀ w ∈ wsX20, w ∈ wsX2_measure := by decide +kernel
  intro σ x1 x2 x4 y1 y2 g H locs ls h hw hg hl hK2
  unfold fZ_measure_J46 at h
  obtain ⟨b_46, h⟩ := chk_of h
  refine cS_201 C hw b_46 dX2_measure_46 (fun H locs hw => ?_)
  refine lv_aload_n hx hb dX2_measure_47 rfl (lv_at hl 0 rfl) ?_
  refine cG_202 C in_2 hw.1 k_15 dX2_measure_48 ?_
  refine lv_iload_n hx hb dX2_measure_51 rfl (lv_at hl 1 rfl) ?_
  refine lv_iload hx hb dX2_measure_52 (lv_at hl 3 rfl) ?_
  refine lv_if_eq (tgt := 61) hx hb dX2_measure_54 (by decide) (fun c_54 => ?_) (fun c_54 => ?_)
  · have h := zz_pos c_54 h
    refine lv_lconst (v := (0 : Int64)) hx hb dX2_measure_61 (by decide) ?_
    obtain ⟨b_62, h⟩ := chk_of h
    refine cS_202 C hw b_62 dX2_measure_62 (fun H locs hw => ?_)
    refine lv_iinc (v := (x1 + 1)) (lv' := [(1, .int (x1 + 1)), (0, .ref (ρ 299)), (2, .long x2), (4, .int x4)]) hx hb dX2_measure_63 hl (k := 1) rfl rfl (by decide) rfl (fun ls hl => ?_)
    refine lv_goto (tgt := 2) hx hb dX2_measure_66 (by decide) ?_
    exact hK2 _ _ _ _ _ _ h hw hg (lv_sub hl [1, 0] rfl)
  · have h := zz_neg c_54 h
    refine lv_lload_n hx hb dX2_measure_57 rfl (lv_at hl 2 rfl) ?_
    refine lv_goto (tgt := 62) hx hb dX2_measure_58 (by decide) ?_
    obtain ⟨b_62, h⟩ := chk_of h
    refine cS_202 C hw b_62 dX2_measure_62 (fun H locs hw => ?_)
    refine lv_iinc (v := (x1 + 1)) (lv' := [(1, .int (x1 + 1)), (0, .ref (ρ 299)), (2, .long x2), (4, .int x4)]) hx hb dX2_measure_63 hl (k := 1) rfl rfl (by decide) rfl (fun ls hl => ?_)
    refine lv_goto (tgt := 2) hx hb dX2_measure_66 (by decide) ?_
    exact hK2 _ _ _ _ _ _ h hw hg (lv_sub hl [1, 0] rfl)
set_option maxRecDepth 100000 in
set_option maxHeartbeats 4000000 in
theorem wZ_measure_L2 {p : Program} {l : Launch} {e : Env} {s : State} {m : MethodId} {args : Array Value} {below : List Frame} {meth : Method} {c : Code} {D : va_G} {κ : Nat → ClassId} {ρ : Nat → Nat} {g0 : Gh} (C : CallFix p m c cX2_measure 5 s args wsX2_measure RX2) (hr : meth.sig.returnType = none) (hlk : meth.locks = false) {N : Nat} {q : CSt} : ∀ (n : Nat) (σ : CSt) (x1 : Int32) (g : Gh) (H : Heap) (locs : List Loc) (ls : Array Slot), fZ_measure_L2 N n σ x1 = some q → WC D κ ρ (AC ρ g0 s.heap.size) s.heap g σ s H locs → sub g0 g → lv_has ls 5 [(0, .ref (ρ 299)), (1, .int x1)] → W p l e ({ frames := 3, cells := 0, slots := 0, locals := 67 } : Room) s m args below meth c H locs 0 0 (MQ below (QC D κ ρ s.heap.size g0 q none) args s 0 0 (AC ρ g0 s.heap.size)) (F0 m 2 ls []) := by
  have hx := C.1
  have hb := C.2.1
  have hts := C.2.2.2.2
  have hown := C.2.2.2.1
  have k_9 := hts (.fieldLink RX2 9 "PlanCabinet$Prices" "sizesA" "[J") (by decide +kernel)
  have k_18 := hts (.fieldLink RX2 18 "PlanCabinet$Prices" "question" "LPlanCabinet$Question;") (by decide +kernel)
  have k_26 := hts (.fieldLink RX2 26 "PlanCabinet$Question" "openPairing" "I") (by decide +kernel)
  have in_2 : ∀ w ∈ wsX20, w ∈ wsX2_measure := by decide +kernel
  have in_3 : ∀ w ∈ wsX30, w ∈ wsX2_measure := by decide +kernel
  intro n
  induction n with
  | zero =>
    intro σ x1 g H locs ls h hw hg hl
    rw [fZ_measure_L2] at h
    cases h
  | succ n ih =>
    intro σ x1 g H locs ls h hw hg hl
    rw [fZ_measure_L2] at h
    refine lv_iload_n hx hb dX2_measure_2 rfl (lv_at hl 1 rfl) ?_
    refine lv_bipush (v := (16 : Int32)) hx hb dX2_measure_3 (by decide) ?_
    refine lv_icmp_ge (tgt := 69) hx hb dX2_measure_5 (by decide) (fun c_5 => ?_) (fun c_5 => ?_)
    · have h := zz_pos c_5 h
      exact W.vret hx hb hr (fun t ht hW => QC.of rfl (by rw [← some_of h]; exact hw) hg ht hW) hw.2.2.2.2 dX2_measure_69
    · have h := zz_neg c_5 h
      refine lv_aload_n hx hb dX2_measure_8 rfl (lv_at hl 0 rfl) ?_
      refine lv_iload_n hx hb dX2_measure_9 rfl (lv_at hl 1 rfl) ?_
      obtain ⟨r_10, e_10, h⟩ := bnd_of h
      refine callP (W.runV (As := [.int x1]) C (cZ_sizeWithoutX e_10) (cwV 1 hts gX2_measure_X2_sizeWithoutX rfl rfl rfl (by decide +kernel) ⟨by decide, by decide⟩) (preR (recv_299 hw.1) hw.1) rfl rfl hl.1 rfl (lv_room (Nat.le_of_ble_eq_true rfl)) dX2_measure_10 ⟨Nat.zero_le _, Nat.zero_le _⟩) ?_
      refine lv_lstore_n (lv' := [(2, .long r_10), (0, .ref (ρ 299)), (1, .int x1)]) hx hb dX2_measure_13 rfl hl (by decide) rfl (fun ls hl => ?_)
      refine lv_aload_n hx hb dX2_measure_14 rfl (lv_at hl 1 rfl) ?_
      refine cG_200 C in_2 hw.1 k_18 dX2_measure_15 ?_
      refine lv_aload_n hx hb dX2_measure_18 rfl (lv_at hl 1 rfl) ?_
      refine cG_200 C in_2 hw.1 k_18 dX2_measure_19 ?_
      refine cG_302 C in_3 hw.1 k_26 dX2_measure_22 ?_
      refine lv_iload_n hx hb dX2_measure_25 rfl (lv_at hl 2 rfl) ?_
      obtain ⟨r_26, e_26, h⟩ := bnd_of h
      refine callP (W.runV (As := [.int (σ.1 302), .int x1]) C (cQ_isInside e_26) (cwV 2 hts gX2_measure_X3_isInside rfl rfl rfl (by decide +kernel) ⟨by decide, by decide⟩) (preR (recv_399 hw.1) hw.1) rfl rfl hl.1 rfl (lv_room (Nat.le_of_ble_eq_true rfl)) dX2_measure_26 ⟨Nat.zero_le _, Nat.zero_le _⟩) ?_
      refine lv_istore (lv' := [(4, .int r_26), (2, .long r_10), (0, .ref (ρ 299)), (1, .int x1)]) hx hb dX2_measure_29 hl (by decide) rfl (fun ls hl => ?_)
      refine lv_aload_n hx hb dX2_measure_31 rfl (lv_at hl 2 rfl) ?_
      refine cG_201 C in_2 hw.1 k_9 dX2_measure_32 ?_
      refine lv_iload_n hx hb dX2_measure_35 rfl (lv_at hl 3 rfl) ?_
      refine lv_iload hx hb dX2_measure_36 (lv_at hl 0 rfl) ?_
      refine lv_if_eq (tgt := 45) hx hb dX2_measure_38 (by decide) (fun c_38 => ?_) (fun c_38 => ?_)
      · have h := zz_pos c_38 h
        refine lv_lload_n hx hb dX2_measure_45 rfl (lv_at hl 1 rfl) ?_
        refine wZ_measure_J46 C hr hlk  _ _ _ _ _ _ _ _ _ _ h hw hg (lv_sub hl [2, 3, 1, 0] rfl) ?_
        intro σ x1 g H locs ls h hw hg hl
        exact ih _ _ _ _ _ _ h hw hg (lv_sub hl [0, 1] rfl)
      · have h := zz_neg c_38 h
        refine lv_lconst (v := (0 : Int64)) hx hb dX2_measure_41 (by decide) ?_
        refine lv_goto (tgt := 46) hx hb dX2_measure_42 (by decide) ?_
        refine wZ_measure_J46 C hr hlk  _ _ _ _ _ _ _ _ _ _ h hw hg (lv_sub hl [2, 3, 1, 0] rfl) ?_
        intro σ x1 g H locs ls h hw hg hl
        exact ih _ _ _ _ _ _ h hw hg (lv_sub hl [0, 1] rfl)
set_option maxRecDepth 100000 in
set_option maxHeartbeats 4000000 in
theorem cZ_measure {l : Launch} {D : va_G} {κ : Nat → ClassId} {ρ : Nat → Nat} {g0 : Gh} {sz : Nat} {N : Nat} {σ : CSt} {q : CSt} (h : fZ_measure N σ = some q) : Met l yX2_measure wsX2_measure ({ frames := 3, cells := 0, slots := 0, locals := 67 } : Room) (va_Pc [.ref (ρ 299)] (PC D κ ρ sz g0 σ)) (QC D κ ρ sz g0 q none) 0 0 (AC ρ g0 sz) := by
  refine cMetM (Qc := fun z => QC D κ ρ z g0 q none) (ret := none) (by decide) rfl rfl (Nat.le_of_ble_eq_true rfl) ?_
  intro p e s m below meth c ls C hr hlk hw hl
  obtain ⟨g, eg⟩ : ∃ x, x = g0 := ⟨_, rfl⟩
  have hw : WC D κ ρ (AC ρ g0 s.heap.size) s.heap g σ s s.heap [] := by rw [eg]; exact hw
  have hg : sub g0 g := by rw [eg]; exact sub_rf g0
  have hl : lv_has ls 5 [(0, .ref (ρ 299))] := hl
  unfold fZ_measure at h
  have hx := C.1
  have hb := C.2.1
  have hts := C.2.2.2.2
  have hown := C.2.2.2.1
  refine lv_iconst (v := (0 : Int32)) hx hb dX2_measure_0 (by decide) ?_
  refine lv_istore_n (lv' := [(1, .int (0 : Int32)), (0, .ref (ρ 299))]) hx hb dX2_measure_1 rfl hl (by decide) rfl (fun ls hl => ?_)
  exact wZ_measure_L2 C hr hlk  _ _ _ _ _ _ _ h hw hg (lv_sub hl [1, 0] rfl)
def fZ_sizeA (N : Nat) (σ : CSt) (x1 : Int32) : Option (Int64) := (if x1 < 0 then some (0 : Int64) else (if x1 < (16 : Int32) then chk x1 16 (some (σ.2.2.2.1 201 x1.toNatClampNeg)) else some (0 : Int64)))
set_option maxRecDepth 100000 in
set_option maxHeartbeats 4000000 in
theorem cZ_sizeA {l : Launch} {D : va_G} {κ : Nat → ClassId} {ρ : Nat → Nat} {g : Gh} {N : Nat} {σ : CSt} {x1 : Int32} {r : Int64} (h : fZ_sizeA N σ x1 = some r) : Met l yX2_sizeA wsX2_sizeA ({ frames := 0, cells := 0, slots := 0, locals := 0 } : Room) (va_Pc [.ref (ρ 299), .int x1] (PRC D κ ρ g σ)) (PU (some (.long r))) 0 0 (fun _ => False) := by
  refine cMetR (ret := (some .long)) (by decide) rfl rfl (Nat.le_of_ble_eq_true rfl) ?_
  intro p e s m below meth c ls C hr hlk hw hl
  have hl : lv_has ls 2 [(0, .ref (ρ 299)), (1, .int x1)] := hl
  unfold fZ_sizeA at h
  have hx := C.1
  have hb := C.2.1
  have hts := C.2.2.2.2
  have hown := C.2.2.2.1
  have k_9 := hts (.fieldLink RX2 9 "PlanCabinet$Prices" "sizesA" "[J") (by decide +kernel)
  have in_2 : ∀ w ∈ wsX20, w ∈ wsX2_sizeA := by decide +kernel
  refine lv_iload_n hx hb dX2_sizeA_0 rfl (lv_at hl 1 rfl) ?_
  refine lv_if_lt (tgt := 10) hx hb dX2_sizeA_1 (by decide) (fun c_1 => ?_) (fun c_1 => ?_)
  · have h := zz_pos c_1 h
    refine lv_lconst (v := (0 : Int64)) hx hb dX2_sizeA_10 (by decide) ?_
    refine lv_goto (tgt := 20) hx hb dX2_sizeA_11 (by decide) ?_
    exact W.lret hx hb hr (fun t ht hW => ⟨by rw [some_of h], ht⟩) (fun _ h => by cases h) dX2_sizeA_20
  · have h := zz_neg c_1 h
    refine lv_iload_n hx hb dX2_sizeA_4 rfl (lv_at hl 1 rfl) ?_
    refine lv_bipush (v := (16 : Int32)) hx hb dX2_sizeA_5 (by decide) ?_
    refine lv_icmp_lt (tgt := 14) hx hb dX2_sizeA_7 (by decide) (fun c_7 => ?_) (fun c_7 => ?_)
    · have h := zz_pos c_7 h
      refine lv_aload_n hx hb dX2_sizeA_14 rfl (lv_at hl 0 rfl) ?_
      refine cG_201 C in_2 hw k_9 dX2_sizeA_15 ?_
      refine lv_iload_n hx hb dX2_sizeA_18 rfl (lv_at hl 1 rfl) ?_
      obtain ⟨b_19, h⟩ := chk_of h
      refine cL_201 C hw b_19 dX2_sizeA_19 ?_
      exact W.lret hx hb hr (fun t ht hW => ⟨by rw [some_of h], ht⟩) (fun _ h => by cases h) dX2_sizeA_20
    · have h := zz_neg c_7 h
      refine lv_lconst (v := (0 : Int64)) hx hb dX2_sizeA_10 (by decide) ?_
      refine lv_goto (tgt := 20) hx hb dX2_sizeA_11 (by decide) ?_
      exact W.lret hx hb hr (fun t ht hW => ⟨by rw [some_of h], ht⟩) (fun _ h => by cases h) dX2_sizeA_20
def fZ_sizeB (N : Nat) (σ : CSt) (x1 : Int32) : Option (Int64) := (if x1 < 0 then some (0 : Int64) else (if x1 < (16 : Int32) then chk x1 16 (some (σ.2.2.2.1 202 x1.toNatClampNeg)) else some (0 : Int64)))
set_option maxRecDepth 100000 in
set_option maxHeartbeats 4000000 in
theorem cZ_sizeB {l : Launch} {D : va_G} {κ : Nat → ClassId} {ρ : Nat → Nat} {g : Gh} {N : Nat} {σ : CSt} {x1 : Int32} {r : Int64} (h : fZ_sizeB N σ x1 = some r) : Met l yX2_sizeB wsX2_sizeB ({ frames := 0, cells := 0, slots := 0, locals := 0 } : Room) (va_Pc [.ref (ρ 299), .int x1] (PRC D κ ρ g σ)) (PU (some (.long r))) 0 0 (fun _ => False) := by
  refine cMetR (ret := (some .long)) (by decide) rfl rfl (Nat.le_of_ble_eq_true rfl) ?_
  intro p e s m below meth c ls C hr hlk hw hl
  have hl : lv_has ls 2 [(0, .ref (ρ 299)), (1, .int x1)] := hl
  unfold fZ_sizeB at h
  have hx := C.1
  have hb := C.2.1
  have hts := C.2.2.2.2
  have hown := C.2.2.2.1
  have k_15 := hts (.fieldLink RX2 15 "PlanCabinet$Prices" "sizesB" "[J") (by decide +kernel)
  have in_2 : ∀ w ∈ wsX20, w ∈ wsX2_sizeB := by decide +kernel
  refine lv_iload_n hx hb dX2_sizeB_0 rfl (lv_at hl 1 rfl) ?_
  refine lv_if_lt (tgt := 10) hx hb dX2_sizeB_1 (by decide) (fun c_1 => ?_) (fun c_1 => ?_)
  · have h := zz_pos c_1 h
    refine lv_lconst (v := (0 : Int64)) hx hb dX2_sizeB_10 (by decide) ?_
    refine lv_goto (tgt := 20) hx hb dX2_sizeB_11 (by decide) ?_
    exact W.lret hx hb hr (fun t ht hW => ⟨by rw [some_of h], ht⟩) (fun _ h => by cases h) dX2_sizeB_20
  · have h := zz_neg c_1 h
    refine lv_iload_n hx hb dX2_sizeB_4 rfl (lv_at hl 1 rfl) ?_
    refine lv_bipush (v := (16 : Int32)) hx hb dX2_sizeB_5 (by decide) ?_
    refine lv_icmp_lt (tgt := 14) hx hb dX2_sizeB_7 (by decide) (fun c_7 => ?_) (fun c_7 => ?_)
    · have h := zz_pos c_7 h
      refine lv_aload_n hx hb dX2_sizeB_14 rfl (lv_at hl 0 rfl) ?_
      refine cG_202 C in_2 hw k_15 dX2_sizeB_15 ?_
      refine lv_iload_n hx hb dX2_sizeB_18 rfl (lv_at hl 1 rfl) ?_
      obtain ⟨b_19, h⟩ := chk_of h
      refine cL_202 C hw b_19 dX2_sizeB_19 ?_
      exact W.lret hx hb hr (fun t ht hW => ⟨by rw [some_of h], ht⟩) (fun _ h => by cases h) dX2_sizeB_20
    · have h := zz_neg c_7 h
      refine lv_lconst (v := (0 : Int64)) hx hb dX2_sizeB_10 (by decide) ?_
      refine lv_goto (tgt := 20) hx hb dX2_sizeB_11 (by decide) ?_
      exact W.lret hx hb hr (fun t ht hW => ⟨by rw [some_of h], ht⟩) (fun _ h => by cases h) dX2_sizeB_20
def fZ_joinA_J58 (N : Nat) (σ : CSt) (x2 : Int32) (x3 : Int32) (y0 : Int64) : Option (Int64) := chk x2 16 (chk x3 16 (some (y0 * ((σ.2.2.2.1 201 x2.toNatClampNeg) + (σ.2.2.2.1 201 x3.toNatClampNeg)))))
def fZ_joinA (N : Nat) (σ : CSt) (x1 : Int32) (x2 : Int32) (x3 : Int32) : Option (Int64) := (if x2 < 0 then some (0 : Int64) else (if (16 : Int32) ≤ x2 then some (0 : Int64) else (if x3 < 0 then some (0 : Int64) else (if x3 < (16 : Int32) then (if x1 = 0 then chk x2 16 (chk x3 16 (nz64 (256 : Int64) (some (((σ.2.2.2.1 201 x2.toNatClampNeg) * (σ.2.2.2.1 201 x3.toNatClampNeg)) / (256 : Int64))))) else (if x1 = (1 : Int32) then fZ_joinA_J58 N σ x2 x3 (2 : Int64) else fZ_joinA_J58 N σ x2 x3 (3 : Int64))) else some (0 : Int64)))))
set_option maxRecDepth 100000 in
set_option maxHeartbeats 4000000 in
theorem wZ_joinA_J58 {p : Program} {l : Launch} {e : Env} {s : State} {m : MethodId} {args : Array Value} {below : List Frame} {meth : Method} {c : Code} {D : va_G} {κ : Nat → ClassId} {ρ : Nat → Nat} {g : Gh} {σ : CSt} (C : CallFix p m c cX2_joinA 6 s args wsX2_joinA RX2) (hr : meth.sig.returnType = (some .long)) (hlk : meth.locks = false) (hw : RC D κ ρ g σ s s.heap) {N : Nat} {r : Int64} : ∀ (x2 : Int32) (x3 : Int32) (y0 : Int64) (ls : Array Slot), fZ_joinA_J58 N σ x2 x3 y0 = some r → lv_has ls 6 [(0, .ref (ρ 299)), (2, .int x2), (3, .int x3)] → W p l e ({ frames := 0, cells := 0, slots := 0, locals := 0 } : Room) s m args below meth c s.heap [] 0 0 (MQ below (PU (some (.long r))) args s 0 0 (fun _ => False)) (F0 m 58 ls [.long y0]) := by
  have hx := C.1
  have hb := C.2.1
  have hts := C.2.2.2.2
  have hown := C.2.2.2.1
  have k_9 := hts (.fieldLink RX2 9 "PlanCabinet$Prices" "sizesA" "[J") (by decide +kernel)
  have in_2 : ∀ w ∈ wsX20, w ∈ wsX2_joinA := by decide +kernel
  intro x2 x3 y0 ls h hl
  unfold fZ_joinA_J58 at h
  refine lv_lstore (lv' := [(4, .long y0), (0, .ref (ρ 299)), (2, .int x2), (3, .int x3)]) hx hb dX2_joinA_58 hl (by decide) rfl (fun ls hl => ?_)
  refine lv_lload hx hb dX2_joinA_60 (lv_at hl 0 rfl) ?_
  refine lv_aload_n hx hb dX2_joinA_62 rfl (lv_at hl 1 rfl) ?_
  refine cG_201 C in_2 hw k_9 dX2_joinA_63 ?_
  refine lv_iload_n hx hb dX2_joinA_66 rfl (lv_at hl 2 rfl) ?_
  obtain ⟨b_67, h⟩ := chk_of h
  refine cL_201 C hw b_67 dX2_joinA_67 ?_
  refine lv_aload_n hx hb dX2_joinA_68 rfl (lv_at hl 1 rfl) ?_
  refine cG_201 C in_2 hw k_9 dX2_joinA_69 ?_
  refine lv_iload_n hx hb dX2_joinA_72 rfl (lv_at hl 3 rfl) ?_
  obtain ⟨b_73, h⟩ := chk_of h
  refine cL_201 C hw b_73 dX2_joinA_73 ?_
  refine lv_ladd hx hb dX2_joinA_74 ?_
  refine lv_lmul hx hb dX2_joinA_75 ?_
  exact W.lret hx hb hr (fun t ht hW => ⟨by rw [some_of h], ht⟩) (fun _ h => by cases h) dX2_joinA_76
set_option maxRecDepth 100000 in
set_option maxHeartbeats 4000000 in
theorem cZ_joinA {l : Launch} {D : va_G} {κ : Nat → ClassId} {ρ : Nat → Nat} {g : Gh} {N : Nat} {σ : CSt} {x1 : Int32} {x2 : Int32} {x3 : Int32} {r : Int64} (h : fZ_joinA N σ x1 x2 x3 = some r) : Met l yX2_joinA wsX2_joinA ({ frames := 0, cells := 0, slots := 0, locals := 0 } : Room) (va_Pc [.ref (ρ 299), .int x1, .int x2, .int x3] (PRC D κ ρ g σ)) (PU (some (.long r))) 0 0 (fun _ => False) := by
  refine cMetR (ret := (some .long)) (by decide) rfl rfl (Nat.le_of_ble_eq_true rfl) ?_
  intro p e s m below meth c ls C hr hlk hw hl
  have hl : lv_has ls 6 [(0, .ref (ρ 299)), (1, .int x1), (2, .int x2), (3, .int x3)] := hl
  unfold fZ_joinA at h
  have hx := C.1
  have hb := C.2.1
  have hts := C.2.2.2.2
  have hown := C.2.2.2.1
  have k_9 := hts (.fieldLink RX2 9 "PlanCabinet$Prices" "sizesA" "[J") (by decide +kernel)
  have k_36 := hts (.constantLong RX2 36 (256)) (by decide +kernel)
  have k_50 := hts (.constantLong RX2 50 (2)) (by decide +kernel)
  have k_52 := hts (.constantLong RX2 52 (3)) (by decide +kernel)
  have in_2 : ∀ w ∈ wsX20, w ∈ wsX2_joinA := by decide +kernel
  refine lv_iload_n hx hb dX2_joinA_0 rfl (lv_at hl 2 rfl) ?_
  refine lv_if_lt (tgt := 20) hx hb dX2_joinA_1 (by decide) (fun c_1 => ?_) (fun c_1 => ?_)
  · have h := zz_pos c_1 h
    refine lv_lconst (v := (0 : Int64)) hx hb dX2_joinA_20 (by decide) ?_
    exact W.lret hx hb hr (fun t ht hW => ⟨by rw [some_of h], ht⟩) (fun _ h => by cases h) dX2_joinA_21
  · have h := zz_neg c_1 h
    refine lv_iload_n hx hb dX2_joinA_4 rfl (lv_at hl 2 rfl) ?_
    refine lv_bipush (v := (16 : Int32)) hx hb dX2_joinA_5 (by decide) ?_
    refine lv_icmp_ge (tgt := 20) hx hb dX2_joinA_7 (by decide) (fun c_7 => ?_) (fun c_7 => ?_)
    · have h := zz_pos c_7 h
      refine lv_lconst (v := (0 : Int64)) hx hb dX2_joinA_20 (by decide) ?_
      exact W.lret hx hb hr (fun t ht hW => ⟨by rw [some_of h], ht⟩) (fun _ h => by cases h) dX2_joinA_21
    · have h := zz_neg c_7 h
      refine lv_iload_n hx hb dX2_joinA_10 rfl (lv_at hl 3 rfl) ?_
      refine lv_if_lt (tgt := 20) hx hb dX2_joinA_11 (by decide) (fun c_11 => ?_) (fun c_11 => ?_)
      · have h := zz_pos c_11 h
        refine lv_lconst (v := (0 : Int64)) hx hb dX2_joinA_20 (by decide) ?_
        exact W.lret hx hb hr (fun t ht hW => ⟨by rw [some_of h], ht⟩) (fun _ h => by cases h) dX2_joinA_21
      · have h := zz_neg c_11 h
        refine lv_iload_n hx hb dX2_joinA_14 rfl (lv_at hl 3 rfl) ?_
        refine lv_bipush (v := (16 : Int32)) hx hb dX2_joinA_15 (by decide) ?_
        refine lv_icmp_lt (tgt := 22) hx hb dX2_joinA_17 (by decide) (fun c_17 => ?_) (fun c_17 => ?_)
        · have h := zz_pos c_17 h
          refine lv_iload_n hx hb dX2_joinA_22 rfl (lv_at hl 1 rfl) ?_
          refine lv_if_ne (tgt := 44) hx hb dX2_joinA_23 (by decide) (fun c_23 => ?_) (fun c_23 => ?_)
          · have h := zz_neg c_23 h
            refine lv_iload_n hx hb dX2_joinA_44 rfl (lv_at hl 1 rfl) ?_
            refine lv_iconst (v := (1 : Int32)) hx hb dX2_joinA_45 (by decide) ?_
            refine lv_icmp_ne (tgt := 55) hx hb dX2_joinA_46 (by decide) (fun c_46 => ?_) (fun c_46 => ?_)
            · have h := zz_neg c_46 h
              refine lv_ldc2 hx hb hown k_52 dX2_joinA_55 ?_
              exact wZ_joinA_J58 C hr hlk hw _ _ _ _ h (lv_sub hl [0, 2, 3] rfl)
            · have h := zz_pos c_46 h
              refine lv_ldc2 hx hb hown k_50 dX2_joinA_49 ?_
              refine lv_goto (tgt := 58) hx hb dX2_joinA_52 (by decide) ?_
              exact wZ_joinA_J58 C hr hlk hw _ _ _ _ h (lv_sub hl [0, 2, 3] rfl)
          · have h := zz_pos c_23 h
            refine lv_aload_n hx hb dX2_joinA_26 rfl (lv_at hl 0 rfl) ?_
            refine cG_201 C in_2 hw k_9 dX2_joinA_27 ?_
            refine lv_iload_n hx hb dX2_joinA_30 rfl (lv_at hl 2 rfl) ?_
            obtain ⟨b_31, h⟩ := chk_of h
            refine cL_201 C hw b_31 dX2_joinA_31 ?_
            refine lv_aload_n hx hb dX2_joinA_32 rfl (lv_at hl 0 rfl) ?_
            refine cG_201 C in_2 hw k_9 dX2_joinA_33 ?_
            refine lv_iload_n hx hb dX2_joinA_36 rfl (lv_at hl 3 rfl) ?_
            obtain ⟨b_37, h⟩ := chk_of h
            refine cL_201 C hw b_37 dX2_joinA_37 ?_
            refine lv_lmul hx hb dX2_joinA_38 ?_
            refine lv_ldc2 hx hb hown k_36 dX2_joinA_39 ?_
            obtain ⟨b_42, h⟩ := nz64_of h
            refine lv_ldiv hx hb dX2_joinA_42 b_42 ?_
            exact W.lret hx hb hr (fun t ht hW => ⟨by rw [some_of h], ht⟩) (fun _ h => by cases h) dX2_joinA_43
        · have h := zz_neg c_17 h
          refine lv_lconst (v := (0 : Int64)) hx hb dX2_joinA_20 (by decide) ?_
          exact W.lret hx hb hr (fun t ht hW => ⟨by rw [some_of h], ht⟩) (fun _ h => by cases h) dX2_joinA_21
def fZ_joinB_J72 (N : Nat) (σ : CSt) (x2 : Int32) (x3 : Int32) (y0 : Int64) : Option (Int64) := chk x2 16 (chk x3 16 (some (y0 * ((σ.2.2.2.1 202 x2.toNatClampNeg) + (σ.2.2.2.1 202 x3.toNatClampNeg)))))
def fZ_joinB (N : Nat) (σ : CSt) (x1 : Int32) (x2 : Int32) (x3 : Int32) : Option (Int64) := (if x2 < 0 then some (0 : Int64) else (if (16 : Int32) ≤ x2 then some (0 : Int64) else (if x3 < 0 then some (0 : Int64) else (if x3 < (16 : Int32) then (if x1 = 0 then chk x2 16 (chk x3 16 (chk x2 16 (chk x3 16 (nz64 (256 : Int64) (some ((((σ.2.2.2.1 201 x2.toNatClampNeg) * (σ.2.2.2.1 202 x3.toNatClampNeg)) + ((σ.2.2.2.1 202 x2.toNatClampNeg) * (σ.2.2.2.1 201 x3.toNatClampNeg))) / (256 : Int64))))))) else (if x1 = (1 : Int32) then fZ_joinB_J72 N σ x2 x3 (2 : Int64) else fZ_joinB_J72 N σ x2 x3 (3 : Int64))) else some (0 : Int64)))))
set_option maxRecDepth 100000 in
set_option maxHeartbeats 4000000 in
theorem wZ_joinB_J72 {p : Program} {l : Launch} {e : Env} {s : State} {m : MethodId} {args : Array Value} {below : List Frame} {meth : Method} {c : Code} {D : va_G} {κ : Nat → ClassId} {ρ : Nat → Nat} {g : Gh} {σ : CSt} (C : CallFix p m c cX2_joinB 6 s args wsX2_joinB RX2) (hr : meth.sig.returnType = (some .long)) (hlk : meth.locks = false) (hw : RC D κ ρ g σ s s.heap) {N : Nat} {r : Int64} : ∀ (x2 : Int32) (x3 : Int32) (y0 : Int64) (ls : Array Slot), fZ_joinB_J72 N σ x2 x3 y0 = some r → lv_has ls 6 [(0, .ref (ρ 299)), (2, .int x2), (3, .int x3)] → W p l e ({ frames := 0, cells := 0, slots := 0, locals := 0 } : Room) s m args below meth c s.heap [] 0 0 (MQ below (PU (some (.long r))) args s 0 0 (fun _ => False)) (F0 m 72 ls [.long y0]) := by
  have hx := C.1
  have hb := C.2.1
  have hts := C.2.2.2.2
  have hown := C.2.2.2.1
  have k_15 := hts (.fieldLink RX2 15 "PlanCabinet$Prices" "sizesB" "[J") (by decide +kernel)
  have in_2 : ∀ w ∈ wsX20, w ∈ wsX2_joinB := by decide +kernel
  intro x2 x3 y0 ls h hl
  unfold fZ_joinB_J72 at h
  refine lv_lstore (lv' := [(4, .long y0), (0, .ref (ρ 299)), (2, .int x2), (3, .int x3)]) hx hb dX2_joinB_72 hl (by decide) rfl (fun ls hl => ?_)
  refine lv_lload hx hb dX2_joinB_74 (lv_at hl 0 rfl) ?_
  refine lv_aload_n hx hb dX2_joinB_76 rfl (lv_at hl 1 rfl) ?_
  refine cG_202 C in_2 hw k_15 dX2_joinB_77 ?_
  refine lv_iload_n hx hb dX2_joinB_80 rfl (lv_at hl 2 rfl) ?_
  obtain ⟨b_81, h⟩ := chk_of h
  refine cL_202 C hw b_81 dX2_joinB_81 ?_
  refine lv_aload_n hx hb dX2_joinB_82 rfl (lv_at hl 1 rfl) ?_
  refine cG_202 C in_2 hw k_15 dX2_joinB_83 ?_
  refine lv_iload_n hx hb dX2_joinB_86 rfl (lv_at hl 3 rfl) ?_
  obtain ⟨b_87, h⟩ := chk_of h
  refine cL_202 C hw b_87 dX2_joinB_87 ?_
  refine lv_ladd hx hb dX2_joinB_88 ?_
  refine lv_lmul hx hb dX2_joinB_89 ?_
  exact W.lret hx hb hr (fun t ht hW => ⟨by rw [some_of h], ht⟩) (fun _ h => by cases h) dX2_joinB_90
set_option maxRecDepth 100000 in
set_option maxHeartbeats 4000000 in
theorem cZ_joinB {l : Launch} {D : va_G} {κ : Nat → ClassId} {ρ : Nat → Nat} {g : Gh} {N : Nat} {σ : CSt} {x1 : Int32} {x2 : Int32} {x3 : Int32} {r : Int64} (h : fZ_joinB N σ x1 x2 x3 = some r) : Met l yX2_joinB wsX2_joinB ({ frames := 0, cells := 0, slots := 0, locals := 0 } : Room) (va_Pc [.ref (ρ 299), .int x1, .int x2, .int x3] (PRC D κ ρ g σ)) (PU (some (.long r))) 0 0 (fun _ => False) := by
  refine cMetR (ret := (some .long)) (by decide) rfl rfl (Nat.le_of_ble_eq_true rfl) ?_
  intro p e s m below meth c ls C hr hlk hw hl
  have hl : lv_has ls 6 [(0, .ref (ρ 299)), (1, .int x1), (2, .int x2), (3, .int x3)] := hl
  unfold fZ_joinB at h
  have hx := C.1
  have hb := C.2.1
  have hts := C.2.2.2.2
  have hown := C.2.2.2.1
  have k_9 := hts (.fieldLink RX2 9 "PlanCabinet$Prices" "sizesA" "[J") (by decide +kernel)
  have k_15 := hts (.fieldLink RX2 15 "PlanCabinet$Prices" "sizesB" "[J") (by decide +kernel)
  have k_36 := hts (.constantLong RX2 36 (256)) (by decide +kernel)
  have k_50 := hts (.constantLong RX2 50 (2)) (by decide +kernel)
  have k_52 := hts (.constantLong RX2 52 (3)) (by decide +kernel)
  have in_2 : ∀ w ∈ wsX20, w ∈ wsX2_joinB := by decide +kernel
  refine lv_iload_n hx hb dX2_joinB_0 rfl (lv_at hl 2 rfl) ?_
  refine lv_if_lt (tgt := 20) hx hb dX2_joinB_1 (by decide) (fun c_1 => ?_) (fun c_1 => ?_)
  · have h := zz_pos c_1 h
    refine lv_lconst (v := (0 : Int64)) hx hb dX2_joinB_20 (by decide) ?_
    exact W.lret hx hb hr (fun t ht hW => ⟨by rw [some_of h], ht⟩) (fun _ h => by cases h) dX2_joinB_21
  · have h := zz_neg c_1 h
    refine lv_iload_n hx hb dX2_joinB_4 rfl (lv_at hl 2 rfl) ?_
    refine lv_bipush (v := (16 : Int32)) hx hb dX2_joinB_5 (by decide) ?_
    refine lv_icmp_ge (tgt := 20) hx hb dX2_joinB_7 (by decide) (fun c_7 => ?_) (fun c_7 => ?_)
    · have h := zz_pos c_7 h
      refine lv_lconst (v := (0 : Int64)) hx hb dX2_joinB_20 (by decide) ?_
      exact W.lret hx hb hr (fun t ht hW => ⟨by rw [some_of h], ht⟩) (fun _ h => by cases h) dX2_joinB_21
    · have h := zz_neg c_7 h
      refine lv_iload_n hx hb dX2_joinB_10 rfl (lv_at hl 3 rfl) ?_
      refine lv_if_lt (tgt := 20) hx hb dX2_joinB_11 (by decide) (fun c_11 => ?_) (fun c_11 => ?_)
      · have h := zz_pos c_11 h
        refine lv_lconst (v := (0 : Int64)) hx hb dX2_joinB_20 (by decide) ?_
        exact W.lret hx hb hr (fun t ht hW => ⟨by rw [some_of h], ht⟩) (fun _ h => by cases h) dX2_joinB_21
      · have h := zz_neg c_11 h
        refine lv_iload_n hx hb dX2_joinB_14 rfl (lv_at hl 3 rfl) ?_
        refine lv_bipush (v := (16 : Int32)) hx hb dX2_joinB_15 (by decide) ?_
        refine lv_icmp_lt (tgt := 22) hx hb dX2_joinB_17 (by decide) (fun c_17 => ?_) (fun c_17 => ?_)
        · have h := zz_pos c_17 h
          refine lv_iload_n hx hb dX2_joinB_22 rfl (lv_at hl 1 rfl) ?_
          refine lv_if_ne (tgt := 58) hx hb dX2_joinB_23 (by decide) (fun c_23 => ?_) (fun c_23 => ?_)
          · have h := zz_neg c_23 h
            refine lv_iload_n hx hb dX2_joinB_58 rfl (lv_at hl 1 rfl) ?_
            refine lv_iconst (v := (1 : Int32)) hx hb dX2_joinB_59 (by decide) ?_
            refine lv_icmp_ne (tgt := 69) hx hb dX2_joinB_60 (by decide) (fun c_60 => ?_) (fun c_60 => ?_)
            · have h := zz_neg c_60 h
              refine lv_ldc2 hx hb hown k_52 dX2_joinB_69 ?_
              exact wZ_joinB_J72 C hr hlk hw _ _ _ _ h (lv_sub hl [0, 2, 3] rfl)
            · have h := zz_pos c_60 h
              refine lv_ldc2 hx hb hown k_50 dX2_joinB_63 ?_
              refine lv_goto (tgt := 72) hx hb dX2_joinB_66 (by decide) ?_
              exact wZ_joinB_J72 C hr hlk hw _ _ _ _ h (lv_sub hl [0, 2, 3] rfl)
          · have h := zz_pos c_23 h
            refine lv_aload_n hx hb dX2_joinB_26 rfl (lv_at hl 0 rfl) ?_
            refine cG_201 C in_2 hw k_9 dX2_joinB_27 ?_
            refine lv_iload_n hx hb dX2_joinB_30 rfl (lv_at hl 2 rfl) ?_
            obtain ⟨b_31, h⟩ := chk_of h
            refine cL_201 C hw b_31 dX2_joinB_31 ?_
            refine lv_aload_n hx hb dX2_joinB_32 rfl (lv_at hl 0 rfl) ?_
            refine cG_202 C in_2 hw k_15 dX2_joinB_33 ?_
            refine lv_iload_n hx hb dX2_joinB_36 rfl (lv_at hl 3 rfl) ?_
            obtain ⟨b_37, h⟩ := chk_of h
            refine cL_202 C hw b_37 dX2_joinB_37 ?_
            refine lv_lmul hx hb dX2_joinB_38 ?_
            refine lv_aload_n hx hb dX2_joinB_39 rfl (lv_at hl 0 rfl) ?_
            refine cG_202 C in_2 hw k_15 dX2_joinB_40 ?_
            refine lv_iload_n hx hb dX2_joinB_43 rfl (lv_at hl 2 rfl) ?_
            obtain ⟨b_44, h⟩ := chk_of h
            refine cL_202 C hw b_44 dX2_joinB_44 ?_
            refine lv_aload_n hx hb dX2_joinB_45 rfl (lv_at hl 0 rfl) ?_
            refine cG_201 C in_2 hw k_9 dX2_joinB_46 ?_
            refine lv_iload_n hx hb dX2_joinB_49 rfl (lv_at hl 3 rfl) ?_
            obtain ⟨b_50, h⟩ := chk_of h
            refine cL_201 C hw b_50 dX2_joinB_50 ?_
            refine lv_lmul hx hb dX2_joinB_51 ?_
            refine lv_ladd hx hb dX2_joinB_52 ?_
            refine lv_ldc2 hx hb hown k_36 dX2_joinB_53 ?_
            obtain ⟨b_56, h⟩ := nz64_of h
            refine lv_ldiv hx hb dX2_joinB_56 b_56 ?_
            exact W.lret hx hb hr (fun t ht hW => ⟨by rw [some_of h], ht⟩) (fun _ h => by cases h) dX2_joinB_57
        · have h := zz_neg c_17 h
          refine lv_lconst (v := (0 : Int64)) hx hb dX2_joinB_20 (by decide) ?_
          exact W.lret hx hb hr (fun t ht hW => ⟨by rw [some_of h], ht⟩) (fun _ h => by cases h) dX2_joinB_21
def fZ_readA (N : Nat) (σ : CSt) (x1 : Int32) : Option (Int64) := (fZ_sizeA N σ x1).bind fun r_2 => (fQ_orderFactor N σ x1 (0 : Int32)).bind fun r_12 => some (r_2 * ((1 : Int32) + r_12).toInt64)
set_option maxRecDepth 100000 in
set_option maxHeartbeats 4000000 in
theorem cZ_readA {l : Launch} {D : va_G} {κ : Nat → ClassId} {ρ : Nat → Nat} {g : Gh} {N : Nat} {σ : CSt} {x1 : Int32} {r : Int64} (h : fZ_readA N σ x1 = some r) : Met l yX2_readA wsX2_readA ({ frames := 1, cells := 0, slots := 0, locals := 23 } : Room) (va_Pc [.ref (ρ 299), .int x1] (PRC D κ ρ g σ)) (PU (some (.long r))) 0 0 (fun _ => False) := by
  refine cMetR (ret := (some .long)) (by decide) rfl rfl (Nat.le_of_ble_eq_true rfl) ?_
  intro p e s m below meth c ls C hr hlk hw hl
  have hl : lv_has ls 2 [(0, .ref (ρ 299)), (1, .int x1)] := hl
  unfold fZ_readA at h
  have hx := C.1
  have hb := C.2.1
  have hts := C.2.2.2.2
  have hown := C.2.2.2.1
  have k_18 := hts (.fieldLink RX2 18 "PlanCabinet$Prices" "question" "LPlanCabinet$Question;") (by decide +kernel)
  have in_2 : ∀ w ∈ wsX20, w ∈ wsX2_readA := by decide +kernel
  refine lv_aload_n hx hb dX2_readA_0 rfl (lv_at hl 0 rfl) ?_
  refine lv_iload_n hx hb dX2_readA_1 rfl (lv_at hl 1 rfl) ?_
  obtain ⟨r_2, e_2, h⟩ := bnd_of h
  refine callP (W.runV (As := [.int x1]) C (cZ_sizeA e_2) (cwV 1 hts gX2_readA_X2_sizeA rfl rfl rfl (by decide +kernel) ⟨by decide, by decide⟩) (preR (recv_299 hw) hw) rfl rfl hl.1 rfl (lv_room (Nat.le_of_ble_eq_true rfl)) dX2_readA_2 ⟨Nat.zero_le _, Nat.zero_le _⟩) ?_
  refine lv_iconst (v := (1 : Int32)) hx hb dX2_readA_5 (by decide) ?_
  refine lv_aload_n hx hb dX2_readA_6 rfl (lv_at hl 0 rfl) ?_
  refine cG_200 C in_2 hw k_18 dX2_readA_7 ?_
  refine lv_iload_n hx hb dX2_readA_10 rfl (lv_at hl 1 rfl) ?_
  refine lv_iconst (v := (0 : Int32)) hx hb dX2_readA_11 (by decide) ?_
  obtain ⟨r_12, e_12, h⟩ := bnd_of h
  refine callP (W.runV (As := [.int x1, .int (0 : Int32)]) C (cQ_orderFactor e_12) (cwV 2 hts gX2_readA_X3_orderFactor rfl rfl rfl (by decide +kernel) ⟨by decide, by decide⟩) (preR (recv_399 hw) hw) rfl rfl hl.1 rfl (lv_room (Nat.le_of_ble_eq_true rfl)) dX2_readA_12 ⟨Nat.zero_le _, Nat.zero_le _⟩) ?_
  refine lv_iadd hx hb dX2_readA_15 ?_
  refine lv_i2l hx hb dX2_readA_16 rfl ?_
  refine lv_lmul hx hb dX2_readA_17 ?_
  exact W.lret hx hb hr (fun t ht hW => ⟨by rw [some_of h], ht⟩) (fun _ h => by cases h) dX2_readA_18
def fZ_reading (N : Nat) (σ : CSt) (x1 : Int32) : Option ((Option Pl) × CSt) := (fZ_readA N σ ((1 : Int32) <<< (x1 &&& 31))).bind fun r_12 => bt (0 : Int32) (some ((some (((1 : Int32) <<< (x1 &&& 31)), x1, r_12, (0 : Int64), (0 : Int32))), σ))
set_option maxRecDepth 100000 in
set_option maxHeartbeats 4000000 in
theorem cZ_reading {l : Launch} {D : va_G} {κ : Nat → ClassId} {ρ : Nat → Nat} {g0 : Gh} {sz : Nat} {N : Nat} {σ : CSt} {x1 : Int32} {q : (Option Pl) × CSt} (h : fZ_reading N σ x1 = some q) : Met l yX2_reading wsX2_reading ({ frames := 2, cells := 1, slots := 5, locals := 47 } : Room) (va_Pc [.ref (ρ 299), .int x1] (PC D κ ρ sz g0 σ)) (QCq D κ ρ sz g0 q.2 q.1) 1 5 (AC ρ g0 sz) := by
  refine cMetM (Qc := fun z => QCq D κ ρ z g0 q.2 q.1) (ret := (some (.object "PlanCabinet$Plan"))) (by decide) rfl rfl (Nat.le_of_ble_eq_true rfl) ?_
  intro p e s m below meth c ls C hr hlk hw hl
  obtain ⟨g, eg⟩ : ∃ x, x = g0 := ⟨_, rfl⟩
  have hw : WC D κ ρ (AC ρ g0 s.heap.size) s.heap g σ s s.heap [] := by rw [eg]; exact hw
  have hg : sub g0 g := by rw [eg]; exact sub_rf g0
  refine W.widen (k := 0) (n := 0) (Nat.le_refl _) (Nat.le_refl _) ?_
  obtain ⟨ce, ece⟩ : ∃ x : Nat, x = 0 := ⟨_, rfl⟩
  obtain ⟨sl, esl⟩ : ∃ x : Nat, x = 0 := ⟨_, rfl⟩
  refine W.widen (k := ce) (n := sl) (Nat.zero_le _) (Nat.zero_le _) ?_
  have hl : lv_has ls 3 [(0, .ref (ρ 299)), (1, .int x1)] := hl
  unfold fZ_reading at h
  have hx := C.1
  have hb := C.2.1
  have hts := C.2.2.2.2
  have hown := C.2.2.2.1
  have k_61 := hts (.classLink RX2 61 RX1) (by decide +kernel)
  have in_1 : ∀ w ∈ wsX10, w ∈ wsX2_reading := by decide +kernel
  refine lv_iconst (v := (1 : Int32)) hx hb dX2_reading_0 (by decide) ?_
  refine lv_iload_n hx hb dX2_reading_1 rfl (lv_at hl 1 rfl) ?_
  refine lv_ishl hx hb dX2_reading_2 ?_
  refine lv_istore_n (lv' := [(2, .int ((1 : Int32) <<< (x1 &&& 31))), (0, .ref (ρ 299)), (1, .int x1)]) hx hb dX2_reading_3 rfl hl (by decide) rfl (fun ls hl => ?_)
  refine cNew C in_1 hw (fun _ h => Or.inr h) k_61 (hts (.instantiable RX1 5) (by decide +kernel)) (hts (.initialized RX1) (by decide +kernel)) (by show _ ≤ 1; omega) (by show _ ≤ 5; omega) dX2_reading_4 (fun u_4 H hw hn => ?_)
  obtain ⟨ce, ec_4⟩ : ∃ x, x = ce + 1 := ⟨_, rfl⟩
  obtain ⟨sl, es_4⟩ : ∃ x, x = sl + 5 := ⟨_, rfl⟩
  rw [← ec_4, ← es_4]
  refine lv_dup hx hb dX2_reading_7 rfl ?_
  refine lv_iload_n hx hb dX2_reading_8 rfl (lv_at hl 0 rfl) ?_
  refine lv_iload_n hx hb dX2_reading_9 rfl (lv_at hl 2 rfl) ?_
  refine lv_aload_n hx hb dX2_reading_10 rfl (lv_at hl 1 rfl) ?_
  refine lv_iload_n hx hb dX2_reading_11 rfl (lv_at hl 0 rfl) ?_
  obtain ⟨r_12, e_12, h⟩ := bnd_of h
  refine callP (W.runV (As := [.int ((1 : Int32) <<< (x1 &&& 31))]) C (cZ_readA e_12) (cwV 1 hts gX2_reading_X2_readA rfl rfl rfl (by decide +kernel) ⟨by decide, by decide⟩) (preR (recv_299 hw.1) hw.1) rfl rfl hl.1 rfl (lv_room (Nat.le_of_ble_eq_true rfl)) dX2_reading_12 ⟨by show _ ≤ 1; omega, by show _ ≤ 5; omega⟩) ?_
  refine lv_lconst (v := (0 : Int64)) hx hb dX2_reading_15 (by decide) ?_
  refine lv_iconst (v := (0 : Int32)) hx hb dX2_reading_16 (by decide) ?_
  obtain ⟨b_17, h⟩ := bt_of h
  refine cInit (x := (((1 : Int32) <<< (x1 &&& 31)), x1, r_12, (0 : Int64), (0 : Int32))) (va_runI (As := [.int ((1 : Int32) <<< (x1 &&& 31)), .int x1, .long r_12, .long (0 : Int64), .int (0 : Int32)]) C (cP_init b_17) (cwI 5 hts gX2_reading_X1_init rfl rfl rfl (hts (.initialized RX1) (by decide +kernel)) (hts (.methodLink RX2 66 yX1_init) (by decide +kernel)) (hts (.instanceMethod yX1_init) (by decide +kernel)) rfl (by decide +kernel) ⟨by decide, by decide⟩) (preN hn.1 hw) rfl rfl hl.1 rfl (lv_room (Nat.le_of_ble_eq_true rfl)) dX2_reading_17 ⟨by show _ ≤ 1; omega, by show _ ≤ 5; omega⟩) hw hn (fun _ h => Or.inr h) (fun g H locs eg hs hq_17 hw => ?_)
  have hg := sub_tr hg hs
  refine W.widen (k := 1) (n := 5) (by omega) (by omega) ?_
  exact W.aret (v := va_rf (some u_4)) hx hb hr (Or.inl ⟨_, rfl⟩) (va_rf_or _) (fun t ht hW => QCq.of (z := (some u_4)) (by rw [← some_of h]; exact (pr_in hq_17)) (by rw [← some_of h]; exact hw) hg ht hW) hw.2.2.2.2 dX2_reading_20
def fZ_joining (N : Nat) (σ : CSt) (x1 : Int32) (x2 : Option Pl) (x3 : Option Pl) : Option ((Option Pl) × CSt) := on x2 none (fun x_1 => on x3 none (fun x_5 => (fQ_leastBetween N σ x_1.1 x_5.1).bind fun r_23 => (fQ_isInOrder N σ x1 r_23).bind fun r_35 => (fQ_orderFactor N σ (x_1.1 ||| x_5.1) r_35).bind fun r_48 => (fZ_joinA N σ x1 x_1.1 x_5.1).bind fun r_73 => (fZ_sizeA N σ (x_1.1 ||| x_5.1)).bind fun r_82 => (fZ_joinB N σ x1 x_1.1 x_5.1).bind fun r_108 => (fZ_sizeB N σ (x_1.1 ||| x_5.1)).bind fun r_117 => (fP_joinedCode N x1 x_1.1 x_1.2.1 x_5.1 x_5.2.1).bind fun r_141 => bt r_35 (some ((some ((x_1.1 ||| x_5.1), r_141, (((x_1.2.2.1 + x_5.2.2.1) + r_73) + (r_48.toInt64 * r_82)), (((x_1.2.2.2.1 + x_5.2.2.2.1) + r_108) + (r_48.toInt64 * r_117)), r_35)), σ))))
set_option maxRecDepth 100000 in
set_option maxHeartbeats 4000000 in
theorem cZ_joining {l : Launch} {D : va_G} {κ : Nat → ClassId} {ρ : Nat → Nat} {g0 : Gh} {sz : Nat} {N : Nat} {σ : CSt} {x1 : Int32} {x2 : Option Pl} {x3 : Option Pl} {zx2 : Option Nat} {zx3 : Option Nat} {q : (Option Pl) × CSt} (h : fZ_joining N σ x1 x2 x3 = some q) (hpx2 : pr g0.2.2.2 zx2 x2) (hpx3 : pr g0.2.2.2 zx3 x3) : Met l yX2_joining wsX2_joining ({ frames := 2, cells := 1, slots := 5, locals := 47 } : Room) (va_Pc [.ref (ρ 299), .int x1, va_rf zx2, va_rf zx3] (PC D κ ρ sz g0 σ)) (QCq D κ ρ sz g0 q.2 q.1) 1 5 (AC ρ g0 sz) := by
  refine cMetM (Qc := fun z => QCq D κ ρ z g0 q.2 q.1) (ret := (some (.object "PlanCabinet$Plan"))) (by decide) rfl rfl (by cases zx2 <;> cases zx3 <;> exact Nat.le_of_ble_eq_true rfl) ?_
  intro p e s m below meth c ls C hr hlk hw hl
  obtain ⟨g, eg⟩ : ∃ x, x = g0 := ⟨_, rfl⟩
  have hw : WC D κ ρ (AC ρ g0 s.heap.size) s.heap g σ s s.heap [] := by rw [eg]; exact hw
  have hg : sub g0 g := by rw [eg]; exact sub_rf g0
  have hpx2 : pr g.2.2.2 zx2 x2 := by rw [eg]; exact hpx2
  have hpx3 : pr g.2.2.2 zx3 x3 := by rw [eg]; exact hpx3
  refine W.widen (k := 0) (n := 0) (Nat.le_refl _) (Nat.le_refl _) ?_
  obtain ⟨ce, ece⟩ : ∃ x : Nat, x = 0 := ⟨_, rfl⟩
  obtain ⟨sl, esl⟩ : ∃ x : Nat, x = 0 := ⟨_, rfl⟩
  refine W.widen (k := ce) (n := sl) (Nat.zero_le _) (Nat.zero_le _) ?_
  have hl : lv_has ls 14 [(0, .ref (ρ 299)), (1, .int x1), (2, va_rf zx2), (3, va_rf zx3)] := by cases zx2 <;> cases zx3 <;> exact hl
  unfold fZ_joining at h
  have hx := C.1
  have hb := C.2.1
  have hts := C.2.2.2.2
  have hown := C.2.2.2.1
  have k_18 := hts (.fieldLink RX2 18 "PlanCabinet$Prices" "question" "LPlanCabinet$Question;") (by decide +kernel)
  have k_61 := hts (.classLink RX2 61 RX1) (by decide +kernel)
  have k_69 := hts (.fieldLink RX2 69 "PlanCabinet$Plan" "set" "I") (by decide +kernel)
  have k_79 := hts (.fieldLink RX2 79 "PlanCabinet$Plan" "a" "J") (by decide +kernel)
  have k_87 := hts (.fieldLink RX2 87 "PlanCabinet$Plan" "b" "J") (by decide +kernel)
  have k_96 := hts (.fieldLink RX2 96 "PlanCabinet$Plan" "packedCode" "I") (by decide +kernel)
  have in_1 : ∀ w ∈ wsX10, w ∈ wsX2_joining := by decide +kernel
  have in_2 : ∀ w ∈ wsX20, w ∈ wsX2_joining := by decide +kernel
  refine cAload_n hx hb dX2_joining_0 rfl (lv_at hl 2 rfl) ?_
  obtain ⟨x_1, ex_1, h⟩ := on_ne h
  have hz_1 := hpx2
  rw [ex_1] at hz_1
  obtain ⟨z_1, ez_1, hq_1⟩ := pr_some hz_1
  subst ez_1
  have hl : lv_has ls 14 [(0, .ref (ρ 299)), (1, .int x1), (2, .ref z_1), (3, va_rf zx3)] := hl
  refine W.eq (g2 := F0 m 1 ls [.ref z_1]) rfl ?_
  refine cGP_0 C in_1 hw.1 hq_1 k_69 dX2_joining_1 ?_
  refine cAload_n hx hb dX2_joining_4 rfl (lv_at hl 3 rfl) ?_
  obtain ⟨x_5, ex_5, h⟩ := on_ne h
  have hz_5 := hpx3
  rw [ex_5] at hz_5
  obtain ⟨z_5, ez_5, hq_5⟩ := pr_some hz_5
  subst ez_5
  have hl : lv_has ls 14 [(0, .ref (ρ 299)), (1, .int x1), (2, .ref z_1), (3, .ref z_5)] := hl
  refine W.eq (g2 := F0 m 5 ls [.ref z_5, .int x_1.1]) rfl ?_
  refine cGP_0 C in_1 hw.1 hq_5 k_69 dX2_joining_5 ?_
  refine lv_ior hx hb dX2_joining_8 ?_
  refine lv_istore (lv' := [(4, .int (x_1.1 ||| x_5.1)), (0, .ref (ρ 299)), (1, .int x1), (2, .ref z_1), (3, .ref z_5)]) hx hb dX2_joining_9 hl (by decide) rfl (fun ls hl => ?_)
  refine lv_aload_n hx hb dX2_joining_11 rfl (lv_at hl 1 rfl) ?_
  refine cG_200 C in_2 hw.1 k_18 dX2_joining_12 ?_
  refine lv_aload_n hx hb dX2_joining_15 rfl (lv_at hl 3 rfl) ?_
  refine cGP_0 C in_1 hw.1 hq_1 k_69 dX2_joining_16 ?_
  refine lv_aload_n hx hb dX2_joining_19 rfl (lv_at hl 4 rfl) ?_
  refine cGP_0 C in_1 hw.1 hq_5 k_69 dX2_joining_20 ?_
  obtain ⟨r_23, e_23, h⟩ := bnd_of h
  refine callP (W.runV (As := [.int x_1.1, .int x_5.1]) C (cQ_leastBetween e_23) (cwV 2 hts gX2_joining_X3_leastBetween rfl rfl rfl (by decide +kernel) ⟨by decide, by decide⟩) (preR (recv_399 hw.1) hw.1) rfl rfl hl.1 rfl (lv_room (Nat.le_of_ble_eq_true rfl)) dX2_joining_23 ⟨by show _ ≤ 1; omega, by show _ ≤ 5; omega⟩) ?_
  refine lv_istore (lv' := [(5, .int r_23), (4, .int (x_1.1 ||| x_5.1)), (0, .ref (ρ 299)), (1, .int x1), (2, .ref z_1), (3, .ref z_5)]) hx hb dX2_joining_26 hl (by decide) rfl (fun ls hl => ?_)
  refine lv_aload_n hx hb dX2_joining_28 rfl (lv_at hl 2 rfl) ?_
  refine cG_200 C in_2 hw.1 k_18 dX2_joining_29 ?_
  refine lv_iload_n hx hb dX2_joining_32 rfl (lv_at hl 3 rfl) ?_
  refine lv_iload hx hb dX2_joining_33 (lv_at hl 0 rfl) ?_
  obtain ⟨r_35, e_35, h⟩ := bnd_of h
  refine callP (W.runV (As := [.int x1, .int r_23]) C (cQ_isInOrder e_35) (cwV 2 hts gX2_joining_X3_isInOrder rfl rfl rfl (by decide +kernel) ⟨by decide, by decide⟩) (preR (recv_399 hw.1) hw.1) rfl rfl hl.1 rfl (lv_room (Nat.le_of_ble_eq_true rfl)) dX2_joining_35 ⟨by show _ ≤ 1; omega, by show _ ≤ 5; omega⟩) ?_
  refine lv_istore (lv' := [(6, .int r_35), (5, .int r_23), (4, .int (x_1.1 ||| x_5.1)), (0, .ref (ρ 299)), (1, .int x1), (2, .ref z_1), (3, .ref z_5)]) hx hb dX2_joining_38 hl (by decide) rfl (fun ls hl => ?_)
  refine lv_aload_n hx hb dX2_joining_40 rfl (lv_at hl 3 rfl) ?_
  refine cG_200 C in_2 hw.1 k_18 dX2_joining_41 ?_
  refine lv_iload hx hb dX2_joining_44 (lv_at hl 2 rfl) ?_
  refine lv_iload hx hb dX2_joining_46 (lv_at hl 0 rfl) ?_
  obtain ⟨r_48, e_48, h⟩ := bnd_of h
  refine callP (W.runV (As := [.int (x_1.1 ||| x_5.1), .int r_35]) C (cQ_orderFactor e_48) (cwV 2 hts gX2_joining_X3_orderFactor rfl rfl rfl (by decide +kernel) ⟨by decide, by decide⟩) (preR (recv_399 hw.1) hw.1) rfl rfl hl.1 rfl (lv_room (Nat.le_of_ble_eq_true rfl)) dX2_joining_48 ⟨by show _ ≤ 1; omega, by show _ ≤ 5; omega⟩) ?_
  refine lv_i2l hx hb dX2_joining_51 rfl ?_
  refine lv_lstore (lv' := [(7, .long r_48.toInt64), (6, .int r_35), (5, .int r_23), (4, .int (x_1.1 ||| x_5.1)), (0, .ref (ρ 299)), (1, .int x1), (2, .ref z_1), (3, .ref z_5)]) hx hb dX2_joining_52 hl (by decide) rfl (fun ls hl => ?_)
  refine lv_aload_n hx hb dX2_joining_54 rfl (lv_at hl 6 rfl) ?_
  refine cGP_2 C in_1 hw.1 hq_1 k_79 dX2_joining_55 ?_
  refine lv_aload_n hx hb dX2_joining_58 rfl (lv_at hl 7 rfl) ?_
  refine cGP_2 C in_1 hw.1 hq_5 k_79 dX2_joining_59 ?_
  refine lv_ladd hx hb dX2_joining_62 ?_
  refine lv_aload_n hx hb dX2_joining_63 rfl (lv_at hl 4 rfl) ?_
  refine lv_iload_n hx hb dX2_joining_64 rfl (lv_at hl 5 rfl) ?_
  refine lv_aload_n hx hb dX2_joining_65 rfl (lv_at hl 6 rfl) ?_
  refine cGP_0 C in_1 hw.1 hq_1 k_69 dX2_joining_66 ?_
  refine lv_aload_n hx hb dX2_joining_69 rfl (lv_at hl 7 rfl) ?_
  refine cGP_0 C in_1 hw.1 hq_5 k_69 dX2_joining_70 ?_
  obtain ⟨r_73, e_73, h⟩ := bnd_of h
  refine callP (W.runV (As := [.int x1, .int x_1.1, .int x_5.1]) C (cZ_joinA e_73) (cwV 3 hts gX2_joining_X2_joinA rfl rfl rfl (by decide +kernel) ⟨by decide, by decide⟩) (preR (recv_299 hw.1) hw.1) rfl rfl hl.1 rfl (lv_room (Nat.le_of_ble_eq_true rfl)) dX2_joining_73 ⟨by show _ ≤ 1; omega, by show _ ≤ 5; omega⟩) ?_
  refine lv_ladd hx hb dX2_joining_76 ?_
  refine lv_lload hx hb dX2_joining_77 (lv_at hl 0 rfl) ?_
  refine lv_aload_n hx hb dX2_joining_79 rfl (lv_at hl 4 rfl) ?_
  refine lv_iload hx hb dX2_joining_80 (lv_at hl 3 rfl) ?_
  obtain ⟨r_82, e_82, h⟩ := bnd_of h
  refine callP (W.runV (As := [.int (x_1.1 ||| x_5.1)]) C (cZ_sizeA e_82) (cwV 1 hts gX2_joining_X2_sizeA rfl rfl rfl (by decide +kernel) ⟨by decide, by decide⟩) (preR (recv_299 hw.1) hw.1) rfl rfl hl.1 rfl (lv_room (Nat.le_of_ble_eq_true rfl)) dX2_joining_82 ⟨by show _ ≤ 1; omega, by show _ ≤ 5; omega⟩) ?_
  refine lv_lmul hx hb dX2_joining_85 ?_
  refine lv_ladd hx hb dX2_joining_86 ?_
  refine lv_lstore (lv' := [(9, .long (((x_1.2.2.1 + x_5.2.2.1) + r_73) + (r_48.toInt64 * r_82))), (7, .long r_48.toInt64), (6, .int r_35), (5, .int r_23), (4, .int (x_1.1 ||| x_5.1)), (0, .ref (ρ 299)), (1, .int x1), (2, .ref z_1), (3, .ref z_5)]) hx hb dX2_joining_87 hl (by decide) rfl (fun ls hl => ?_)
  refine lv_aload_n hx hb dX2_joining_89 rfl (lv_at hl 7 rfl) ?_
  refine cGP_3 C in_1 hw.1 hq_1 k_87 dX2_joining_90 ?_
  refine lv_aload_n hx hb dX2_joining_93 rfl (lv_at hl 8 rfl) ?_
  refine cGP_3 C in_1 hw.1 hq_5 k_87 dX2_joining_94 ?_
  refine lv_ladd hx hb dX2_joining_97 ?_
  refine lv_aload_n hx hb dX2_joining_98 rfl (lv_at hl 5 rfl) ?_
  refine lv_iload_n hx hb dX2_joining_99 rfl (lv_at hl 6 rfl) ?_
  refine lv_aload_n hx hb dX2_joining_100 rfl (lv_at hl 7 rfl) ?_
  refine cGP_0 C in_1 hw.1 hq_1 k_69 dX2_joining_101 ?_
  refine lv_aload_n hx hb dX2_joining_104 rfl (lv_at hl 8 rfl) ?_
  refine cGP_0 C in_1 hw.1 hq_5 k_69 dX2_joining_105 ?_
  obtain ⟨r_108, e_108, h⟩ := bnd_of h
  refine callP (W.runV (As := [.int x1, .int x_1.1, .int x_5.1]) C (cZ_joinB e_108) (cwV 3 hts gX2_joining_X2_joinB rfl rfl rfl (by decide +kernel) ⟨by decide, by decide⟩) (preR (recv_299 hw.1) hw.1) rfl rfl hl.1 rfl (lv_room (Nat.le_of_ble_eq_true rfl)) dX2_joining_108 ⟨by show _ ≤ 1; omega, by show _ ≤ 5; omega⟩) ?_
  refine lv_ladd hx hb dX2_joining_111 ?_
  refine lv_lload hx hb dX2_joining_112 (lv_at hl 1 rfl) ?_
  refine lv_aload_n hx hb dX2_joining_114 rfl (lv_at hl 5 rfl) ?_
  refine lv_iload hx hb dX2_joining_115 (lv_at hl 4 rfl) ?_
  obtain ⟨r_117, e_117, h⟩ := bnd_of h
  refine callP (W.runV (As := [.int (x_1.1 ||| x_5.1)]) C (cZ_sizeB e_117) (cwV 1 hts gX2_joining_X2_sizeB rfl rfl rfl (by decide +kernel) ⟨by decide, by decide⟩) (preR (recv_299 hw.1) hw.1) rfl rfl hl.1 rfl (lv_room (Nat.le_of_ble_eq_true rfl)) dX2_joining_117 ⟨by show _ ≤ 1; omega, by show _ ≤ 5; omega⟩) ?_
  refine lv_lmul hx hb dX2_joining_120 ?_
  refine lv_ladd hx hb dX2_joining_121 ?_
  refine lv_lstore (lv' := [(11, .long (((x_1.2.2.2.1 + x_5.2.2.2.1) + r_108) + (r_48.toInt64 * r_117))), (9, .long (((x_1.2.2.1 + x_5.2.2.1) + r_73) + (r_48.toInt64 * r_82))), (7, .long r_48.toInt64), (6, .int r_35), (5, .int r_23), (4, .int (x_1.1 ||| x_5.1)), (0, .ref (ρ 299)), (1, .int x1), (2, .ref z_1), (3, .ref z_5)]) hx hb dX2_joining_122 hl (by decide) rfl (fun ls hl => ?_)
  refine lv_iload_n hx hb dX2_joining_124 rfl (lv_at hl 7 rfl) ?_
  refine lv_aload_n hx hb dX2_joining_125 rfl (lv_at hl 8 rfl) ?_
  refine cGP_0 C in_1 hw.1 hq_1 k_69 dX2_joining_126 ?_
  refine lv_aload_n hx hb dX2_joining_129 rfl (lv_at hl 8 rfl) ?_
  refine cGP_1 C in_1 hw.1 hq_1 k_96 dX2_joining_130 ?_
  refine lv_aload_n hx hb dX2_joining_133 rfl (lv_at hl 9 rfl) ?_
  refine cGP_0 C in_1 hw.1 hq_5 k_69 dX2_joining_134 ?_
  refine lv_aload_n hx hb dX2_joining_137 rfl (lv_at hl 9 rfl) ?_
  refine cGP_1 C in_1 hw.1 hq_5 k_96 dX2_joining_138 ?_
  obtain ⟨r_141, e_141, h⟩ := bnd_of h
  refine callP (W.runS (As := [.int x1, .int x_1.1, .int x_1.2.1, .int x_5.1, .int x_5.2.1]) C (cP_joinedCode e_141) (va_cwS 5 hts gX2_joining_X1_joinedCode rfl rfl rfl (by decide +kernel) ⟨by decide, by decide⟩) preT rfl rfl hl.1 rfl (lv_room (Nat.le_of_ble_eq_true rfl)) dX2_joining_141 ⟨by show _ ≤ 1; omega, by show _ ≤ 5; omega⟩) ?_
  refine lv_istore (lv' := [(13, .int r_141), (11, .long (((x_1.2.2.2.1 + x_5.2.2.2.1) + r_108) + (r_48.toInt64 * r_117))), (9, .long (((x_1.2.2.1 + x_5.2.2.1) + r_73) + (r_48.toInt64 * r_82))), (7, .long r_48.toInt64), (6, .int r_35), (5, .int r_23), (4, .int (x_1.1 ||| x_5.1)), (0, .ref (ρ 299)), (1, .int x1), (2, .ref z_1), (3, .ref z_5)]) hx hb dX2_joining_144 hl (by decide) rfl (fun ls hl => ?_)
  refine cNew C in_1 hw (fun _ h => Or.inr h) k_61 (hts (.instantiable RX1 5) (by decide +kernel)) (hts (.initialized RX1) (by decide +kernel)) (by show _ ≤ 1; omega) (by show _ ≤ 5; omega) dX2_joining_146 (fun u_146 H hw hn => ?_)
  obtain ⟨ce, ec_146⟩ : ∃ x, x = ce + 1 := ⟨_, rfl⟩
  obtain ⟨sl, es_146⟩ : ∃ x, x = sl + 5 := ⟨_, rfl⟩
  rw [← ec_146, ← es_146]
  refine lv_dup hx hb dX2_joining_149 rfl ?_
  refine lv_iload hx hb dX2_joining_150 (lv_at hl 6 rfl) ?_
  refine lv_iload hx hb dX2_joining_152 (lv_at hl 0 rfl) ?_
  refine lv_lload hx hb dX2_joining_154 (lv_at hl 2 rfl) ?_
  refine lv_lload hx hb dX2_joining_156 (lv_at hl 1 rfl) ?_
  refine lv_iload hx hb dX2_joining_158 (lv_at hl 4 rfl) ?_
  obtain ⟨b_160, h⟩ := bt_of h
  refine cInit (x := ((x_1.1 ||| x_5.1), r_141, (((x_1.2.2.1 + x_5.2.2.1) + r_73) + (r_48.toInt64 * r_82)), (((x_1.2.2.2.1 + x_5.2.2.2.1) + r_108) + (r_48.toInt64 * r_117)), r_35)) (va_runI (As := [.int (x_1.1 ||| x_5.1), .int r_141, .long (((x_1.2.2.1 + x_5.2.2.1) + r_73) + (r_48.toInt64 * r_82)), .long (((x_1.2.2.2.1 + x_5.2.2.2.1) + r_108) + (r_48.toInt64 * r_117)), .int r_35]) C (cP_init b_160) (cwI 5 hts gX2_joining_X1_init rfl rfl rfl (hts (.initialized RX1) (by decide +kernel)) (hts (.methodLink RX2 66 yX1_init) (by decide +kernel)) (hts (.instanceMethod yX1_init) (by decide +kernel)) rfl (by decide +kernel) ⟨by decide, by decide⟩) (preN hn.1 hw) rfl rfl hl.1 rfl (lv_room (Nat.le_of_ble_eq_true rfl)) dX2_joining_160 ⟨by show _ ≤ 1; omega, by show _ ≤ 5; omega⟩) hw hn (fun _ h => Or.inr h) (fun g H locs eg hs hq_160 hw => ?_)
  have hg := sub_tr hg hs
  have hq_1 := hs _ hq_1
  have hq_5 := hs _ hq_5
  refine W.widen (k := 1) (n := 5) (by omega) (by omega) ?_
  exact W.aret (v := va_rf (some u_146)) hx hb hr (Or.inl ⟨_, rfl⟩) (va_rf_or _) (fun t ht hW => QCq.of (z := (some u_146)) (by rw [← some_of h]; exact (pr_in hq_160)) (by rw [← some_of h]; exact hw) hg ht hW) hw.2.2.2.2 dX2_joining_163
