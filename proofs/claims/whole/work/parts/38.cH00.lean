/-! the class, H: offerRead, isBetter, offerJoin, offerJoins, cheapest, wholePlans -/
def fH_offerRead (N : Nat) (σ : CSt) (x1 : Int32) : Option (CSt) := (fZ_readA N σ ((1 : Int32) <<< (x1 &&& 31))).bind fun r_14 => chk ((1 : Int32) <<< (x1 &&& 31)) 16 (chk ((1 : Int32) <<< (x1 &&& 31)) 16 (chk ((1 : Int32) <<< (x1 &&& 31)) 16 (chk ((1 : Int32) <<< (x1 &&& 31)) 16 (some (cA (cA (cB (cB σ 2 ((1 : Int32) <<< (x1 &&& 31)).toNatClampNeg r_14) 3 ((1 : Int32) <<< (x1 &&& 31)).toNatClampNeg (0 : Int64)) 4 ((1 : Int32) <<< (x1 &&& 31)).toNatClampNeg x1) 5 ((1 : Int32) <<< (x1 &&& 31)).toNatClampNeg (vp_nar .boolean (0 : Int32)))))))
set_option maxRecDepth 100000 in
set_option maxHeartbeats 4000000 in
theorem cH_offerRead {l : Launch} {D : va_G} {κ : Nat → ClassId} {ρ : Nat → Nat} {g0 : Gh} {sz : Nat} {N : Nat} {σ : CSt} {x1 : Int32} {q : CSt} (h : fH_offerRead N σ x1 = some q) : Met l yX0_offerRead wsX0_offerRead ({ frames := 2, cells := 0, slots := 0, locals := 44 } : Room) (va_Pc [.ref (ρ 99), .int x1] (PC D κ ρ sz g0 σ)) (QC D κ ρ sz g0 q none) 0 0 (AC ρ g0 sz) := by
  refine cMetM (Qc := fun z => QC D κ ρ z g0 q none) (ret := none) (by decide) rfl rfl (Nat.le_of_ble_eq_true rfl) ?_
  intro p e s m below meth c ls C hr hlk hw hl
  obtain ⟨g, eg⟩ : ∃ x, x = g0 := ⟨_, rfl⟩
  have hw : WC D κ ρ (AC ρ g0 s.heap.size) s.heap g σ s s.heap [] := by rw [eg]; exact hw
  have hg : sub g0 g := by rw [eg]; exact sub_rf g0
  have hl : lv_has ls 3 [(0, .ref (ρ 99)), (1, .int x1)] := hl
  unfold fH_offerRead at h
  have hx := C.1
  have hb := C.2.1
  have hts := C.2.2.2.2
  have hown := C.2.2.2.1
  have k_9 := hts (.fieldLink RX0 9 "PlanCabinet$Chooser" "a" "[J") (by decide +kernel)
  have k_15 := hts (.fieldLink RX0 15 "PlanCabinet$Chooser" "b" "[J") (by decide +kernel)
  have k_18 := hts (.fieldLink RX0 18 "PlanCabinet$Chooser" "codes" "[I") (by decide +kernel)
  have k_22 := hts (.fieldLink RX0 22 "PlanCabinet$Chooser" "inOrder" "[Z") (by decide +kernel)
  have k_33 := hts (.fieldLink RX0 33 "PlanCabinet$Chooser" "prices" "LPlanCabinet$Prices;") (by decide +kernel)
  have in_0 : ∀ w ∈ wsX00, w ∈ wsX0_offerRead := by decide +kernel
  refine lv_iconst (v := (1 : Int32)) hx hb dX0_offerRead_0 (by decide) ?_
  refine lv_iload_n hx hb dX0_offerRead_1 rfl (lv_at hl 1 rfl) ?_
  refine lv_ishl hx hb dX0_offerRead_2 ?_
  refine lv_istore_n (lv' := [(2, .int ((1 : Int32) <<< (x1 &&& 31))), (0, .ref (ρ 99)), (1, .int x1)]) hx hb dX0_offerRead_3 rfl hl (by decide) rfl (fun ls hl => ?_)
  refine lv_aload_n hx hb dX0_offerRead_4 rfl (lv_at hl 1 rfl) ?_
  refine cG_2 C in_0 hw.1 k_9 dX0_offerRead_5 ?_
  refine lv_iload_n hx hb dX0_offerRead_8 rfl (lv_at hl 0 rfl) ?_
  refine lv_aload_n hx hb dX0_offerRead_9 rfl (lv_at hl 1 rfl) ?_
  refine cG_1 C in_0 hw.1 k_33 dX0_offerRead_10 ?_
  refine lv_iload_n hx hb dX0_offerRead_13 rfl (lv_at hl 0 rfl) ?_
  obtain ⟨r_14, e_14, h⟩ := bnd_of h
  refine callP (W.runV (As := [.int ((1 : Int32) <<< (x1 &&& 31))]) C (cZ_readA e_14) (cwV 1 hts gX0_offerRead_X2_readA rfl rfl rfl (by decide +kernel) ⟨by decide, by decide⟩) (preR (recv_299 hw.1) hw.1) rfl rfl hl.1 rfl (lv_room (Nat.le_of_ble_eq_true rfl)) dX0_offerRead_14 ⟨Nat.zero_le _, Nat.zero_le _⟩) ?_
  obtain ⟨b_17, h⟩ := chk_of h
  refine cS_2 C hw b_17 dX0_offerRead_17 (fun H locs hw => ?_)
  refine lv_aload_n hx hb dX0_offerRead_18 rfl (lv_at hl 1 rfl) ?_
  refine cG_3 C in_0 hw.1 k_15 dX0_offerRead_19 ?_
  refine lv_iload_n hx hb dX0_offerRead_22 rfl (lv_at hl 0 rfl) ?_
  refine lv_lconst (v := (0 : Int64)) hx hb dX0_offerRead_23 (by decide) ?_
  obtain ⟨b_24, h⟩ := chk_of h
  refine cS_3 C hw b_24 dX0_offerRead_24 (fun H locs hw => ?_)
  refine lv_aload_n hx hb dX0_offerRead_25 rfl (lv_at hl 1 rfl) ?_
  refine cG_4 C in_0 hw.1 k_18 dX0_offerRead_26 ?_
  refine lv_iload_n hx hb dX0_offerRead_29 rfl (lv_at hl 0 rfl) ?_
  refine lv_iload_n hx hb dX0_offerRead_30 rfl (lv_at hl 2 rfl) ?_
  obtain ⟨b_31, h⟩ := chk_of h
  refine cS_4 C hw b_31 dX0_offerRead_31 (fun H locs hw => ?_)
  refine lv_aload_n hx hb dX0_offerRead_32 rfl (lv_at hl 1 rfl) ?_
  refine cG_5 C in_0 hw.1 k_22 dX0_offerRead_33 ?_
  refine lv_iload_n hx hb dX0_offerRead_36 rfl (lv_at hl 0 rfl) ?_
  refine lv_iconst (v := (0 : Int32)) hx hb dX0_offerRead_37 (by decide) ?_
  obtain ⟨b_38, h⟩ := chk_of h
  refine cS_5 C hw b_38 dX0_offerRead_38 (fun H locs hw => ?_)
  exact W.vret hx hb hr (fun t ht hW => QC.of rfl (by rw [← some_of h]; exact hw) hg ht hW) hw.2.2.2.2 dX0_offerRead_39
def fH_isBetter_J122 (N : Nat) (σ : CSt) (x5 : Int32) (x6 : Int32) : Option (Int32) := chk x6 16 ((if (σ.2.2.1 4 x6.toNatClampNeg) ≤ x5 then some (0 : Int32) else some (1 : Int32)))
def fH_isBetter_J100 (N : Nat) (σ : CSt) (y0 : Int32) : Option (Int32) := (if (σ.1 9) = (1 : Int32) then (if y0 = (1 : Int32) then some (1 : Int32) else some (0 : Int32)) else (if y0 = (0 : Int32) then some (1 : Int32) else some (0 : Int32)))
def fH_isBetter (N : Nat) (σ : CSt) (x1 : Int64) (x3 : Int64) (x5 : Int32) (x6 : Int32) : Option (Int32) := chk x6 16 (chk x6 16 ((if (lg_cmp ((x1 * (σ.2.1 8)) + (x3 * (σ.2.1 7))) (((σ.2.2.2.1 2 x6.toNatClampNeg) * (σ.2.1 8)) + ((σ.2.2.2.1 3 x6.toNatClampNeg) * (σ.2.1 7)))) = 0 then (if (σ.1 9) = 0 then fH_isBetter_J122 N σ x5 x6 else chk x6 16 ((if (lg_cmp x3 (σ.2.2.2.1 3 x6.toNatClampNeg)) = 0 then fH_isBetter_J122 N σ x5 x6 else chk x6 16 ((if (lg_cmp x3 (σ.2.2.2.1 3 x6.toNatClampNeg)) ≤ 0 then fH_isBetter_J100 N σ (0 : Int32) else fH_isBetter_J100 N σ (1 : Int32)))))) else (if 0 ≤ (lg_cmp ((x1 * (σ.2.1 8)) + (x3 * (σ.2.1 7))) (((σ.2.2.2.1 2 x6.toNatClampNeg) * (σ.2.1 8)) + ((σ.2.2.2.1 3 x6.toNatClampNeg) * (σ.2.1 7)))) then some (0 : Int32) else some (1 : Int32)))))
set_option maxRecDepth 100000 in
set_option maxHeartbeats 4000000 in
theorem wH_isBetter_J122 {p : Program} {l : Launch} {e : Env} {s : State} {m : MethodId} {args : Array Value} {below : List Frame} {meth : Method} {c : Code} {D : va_G} {κ : Nat → ClassId} {ρ : Nat → Nat} {g : Gh} {σ : CSt} (C : CallFix p m c cX0_isBetter 11 s args wsX0_isBetter RX0) (hr : meth.sig.returnType = (some .boolean)) (hlk : meth.locks = false) (hw : RC D κ ρ g σ s s.heap) {N : Nat} {r : Int32} : ∀ (x5 : Int32) (x6 : Int32) (ls : Array Slot), fH_isBetter_J122 N σ x5 x6 = some r → lv_has ls 11 [(0, .ref (ρ 99)), (5, .int x5), (6, .int x6)] → W p l e ({ frames := 0, cells := 0, slots := 0, locals := 0 } : Room) s m args below meth c s.heap [] 0 0 (MQ below (PU (some (.int r))) args s 0 0 (fun _ => False)) (F0 m 122 ls []) := by
  have hx := C.1
  have hb := C.2.1
  have hts := C.2.2.2.2
  have hown := C.2.2.2.1
  have k_18 := hts (.fieldLink RX0 18 "PlanCabinet$Chooser" "codes" "[I") (by decide +kernel)
  have in_0 : ∀ w ∈ wsX00, w ∈ wsX0_isBetter := by decide +kernel
  intro x5 x6 ls h hl
  unfold fH_isBetter_J122 at h
  refine lv_iload hx hb dX0_isBetter_122 (lv_at hl 1 rfl) ?_
  refine lv_aload_n hx hb dX0_isBetter_124 rfl (lv_at hl 0 rfl) ?_
  refine cG_4 C in_0 hw k_18 dX0_isBetter_125 ?_
  refine lv_iload hx hb dX0_isBetter_128 (lv_at hl 2 rfl) ?_
  obtain ⟨b_130, h⟩ := chk_of h
  refine cL_4 C hw b_130 dX0_isBetter_130 ?_
  refine lv_icmp_ge (tgt := 138) hx hb dX0_isBetter_131 (by decide) (fun c_131 => ?_) (fun c_131 => ?_)
  · have h := zz_pos c_131 h
    refine lv_iconst (v := (0 : Int32)) hx hb dX0_isBetter_138 (by decide) ?_
    exact W.zret (ty := .boolean) hx hb hr (by decide +kernel) (fun t ht hW => ⟨by rw [some_of h], ht⟩) (fun _ h => by cases h) dX0_isBetter_139
  · have h := zz_neg c_131 h
    refine lv_iconst (v := (1 : Int32)) hx hb dX0_isBetter_134 (by decide) ?_
    refine lv_goto (tgt := 139) hx hb dX0_isBetter_135 (by decide) ?_
    exact W.zret (ty := .boolean) hx hb hr (by decide +kernel) (fun t ht hW => ⟨by rw [some_of h], ht⟩) (fun _ h => by cases h) dX0_isBetter_139
set_option maxRecDepth 100000 in
set_option maxHeartbeats 4000000 in
theorem wH_isBetter_J100 {p : Program} {l : Launch} {e : Env} {s : State} {m : MethodId} {args : Array Value} {below : List Frame} {meth : Method} {c : Code} {D : va_G} {κ : Nat → ClassId} {ρ : Nat → Nat} {g : Gh} {σ : CSt} (C : CallFix p m c cX0_isBetter 11 s args wsX0_isBetter RX0) (hr : meth.sig.returnType = (some .boolean)) (hlk : meth.locks = false) (hw : RC D κ ρ g σ s s.heap) {N : Nat} {r : Int32} : ∀ (y0 : Int32) (ls : Array Slot), fH_isBetter_J100 N σ y0 = some r → lv_has ls 11 [(0, .ref (ρ 99))] → W p l e ({ frames := 0, cells := 0, slots := 0, locals := 0 } : Room) s m args below meth c s.heap [] 0 0 (MQ below (PU (some (.int r))) args s 0 0 (fun _ => False)) (F0 m 100 ls [.int y0]) := by
  have hx := C.1
  have hb := C.2.1
  have hts := C.2.2.2.2
  have hown := C.2.2.2.1
  have k_44 := hts (.fieldLink RX0 44 "PlanCabinet$Chooser" "slope" "I") (by decide +kernel)
  have in_0 : ∀ w ∈ wsX00, w ∈ wsX0_isBetter := by decide +kernel
  intro y0 ls h hl
  unfold fH_isBetter_J100 at h
  refine lv_aload_n hx hb dX0_isBetter_100 rfl (lv_at hl 0 rfl) ?_
  refine cG_9 C in_0 hw k_44 dX0_isBetter_101 ?_
  refine lv_iconst (v := (1 : Int32)) hx hb dX0_isBetter_104 (by decide) ?_
  refine lv_icmp_ne (tgt := 112) hx hb dX0_isBetter_105 (by decide) (fun c_105 => ?_) (fun c_105 => ?_)
  · have h := zz_neg c_105 h
    refine lv_iconst (v := (0 : Int32)) hx hb dX0_isBetter_112 (by decide) ?_
    refine lv_icmp_ne (tgt := 120) hx hb dX0_isBetter_113 (by decide) (fun c_113 => ?_) (fun c_113 => ?_)
    · have h := zz_neg c_113 h
      refine lv_iconst (v := (0 : Int32)) hx hb dX0_isBetter_120 (by decide) ?_
      exact W.zret (ty := .boolean) hx hb hr (by decide +kernel) (fun t ht hW => ⟨by rw [some_of h], ht⟩) (fun _ h => by cases h) dX0_isBetter_121
    · have h := zz_pos c_113 h
      refine lv_iconst (v := (1 : Int32)) hx hb dX0_isBetter_116 (by decide) ?_
      refine lv_goto (tgt := 121) hx hb dX0_isBetter_117 (by decide) ?_
      exact W.zret (ty := .boolean) hx hb hr (by decide +kernel) (fun t ht hW => ⟨by rw [some_of h], ht⟩) (fun _ h => by cases h) dX0_isBetter_121
  · have h := zz_pos c_105 h
    refine lv_iconst (v := (1 : Int32)) hx hb dX0_isBetter_108 (by decide) ?_
    refine lv_goto (tgt := 113) hx hb dX0_isBetter_109 (by decide) ?_
    refine lv_icmp_ne (tgt := 120) hx hb dX0_isBetter_113 (by decide) (fun c_113 => ?_) (fun c_113 => ?_)
    · have h := zz_neg c_113 h
      refine lv_iconst (v := (0 : Int32)) hx hb dX0_isBetter_120 (by decide) ?_
      exact W.zret (ty := .boolean) hx hb hr (by decide +kernel) (fun t ht hW => ⟨by rw [some_of h], ht⟩) (fun _ h => by cases h) dX0_isBetter_121
    · have h := zz_pos c_113 h
      refine lv_iconst (v := (1 : Int32)) hx hb dX0_isBetter_116 (by decide) ?_
      refine lv_goto (tgt := 121) hx hb dX0_isBetter_117 (by decide) ?_
      exact W.zret (ty := .boolean) hx hb hr (by decide +kernel) (fun t ht hW => ⟨by rw [some_of h], ht⟩) (fun _ h => by cases h) dX0_isBetter_121
set_option maxRecDepth 100000 in
set_option maxHeartbeats 4000000 in
theorem cH_isBetter {l : Launch} {D : va_G} {κ : Nat → ClassId} {ρ : Nat → Nat} {g : Gh} {N : Nat} {σ : CSt} {x1 : Int64} {x3 : Int64} {x5 : Int32} {x6 : Int32} {r : Int32} (h : fH_isBetter N σ x1 x3 x5 x6 = some r) : Met l yX0_isBetter wsX0_isBetter ({ frames := 0, cells := 0, slots := 0, locals := 0 } : Room) (va_Pc [.ref (ρ 99), .long x1, .long x3, .int x5, .int x6] (PRC D κ ρ g σ)) (PU (some (.int r))) 0 0 (fun _ => False) := by
  refine cMetR (ret := (some .boolean)) (by decide) rfl rfl (Nat.le_of_ble_eq_true rfl) ?_
  intro p e s m below meth c ls C hr hlk hw hl
  have hl : lv_has ls 11 [(0, .ref (ρ 99)), (1, .long x1), (3, .long x3), (5, .int x5), (6, .int x6)] := hl
  unfold fH_isBetter at h
  have hx := C.1
  have hb := C.2.1
  have hts := C.2.2.2.2
  have hown := C.2.2.2.1
  have k_9 := hts (.fieldLink RX0 9 "PlanCabinet$Chooser" "a" "[J") (by decide +kernel)
  have k_15 := hts (.fieldLink RX0 15 "PlanCabinet$Chooser" "b" "[J") (by decide +kernel)
  have k_37 := hts (.fieldLink RX0 37 "PlanCabinet$Chooser" "above" "J") (by decide +kernel)
  have k_41 := hts (.fieldLink RX0 41 "PlanCabinet$Chooser" "below" "J") (by decide +kernel)
  have k_44 := hts (.fieldLink RX0 44 "PlanCabinet$Chooser" "slope" "I") (by decide +kernel)
  have in_0 : ∀ w ∈ wsX00, w ∈ wsX0_isBetter := by decide +kernel
  refine lv_lload_n hx hb dX0_isBetter_0 rfl (lv_at hl 1 rfl) ?_
  refine lv_aload_n hx hb dX0_isBetter_1 rfl (lv_at hl 0 rfl) ?_
  refine cG_8 C in_0 hw k_41 dX0_isBetter_2 ?_
  refine lv_lmul hx hb dX0_isBetter_5 ?_
  refine lv_lload_n hx hb dX0_isBetter_6 rfl (lv_at hl 2 rfl) ?_
  refine lv_aload_n hx hb dX0_isBetter_7 rfl (lv_at hl 0 rfl) ?_
  refine cG_7 C in_0 hw k_37 dX0_isBetter_8 ?_
  refine lv_lmul hx hb dX0_isBetter_11 ?_
  refine lv_ladd hx hb dX0_isBetter_12 ?_
  refine lv_lstore (lv' := [(7, .long ((x1 * (σ.2.1 8)) + (x3 * (σ.2.1 7)))), (0, .ref (ρ 99)), (1, .long x1), (3, .long x3), (5, .int x5), (6, .int x6)]) hx hb dX0_isBetter_13 hl (by decide) rfl (fun ls hl => ?_)
  refine lv_aload_n hx hb dX0_isBetter_15 rfl (lv_at hl 1 rfl) ?_
  refine cG_2 C in_0 hw k_9 dX0_isBetter_16 ?_
  refine lv_iload hx hb dX0_isBetter_19 (lv_at hl 5 rfl) ?_
  obtain ⟨b_21, h⟩ := chk_of h
  refine cL_2 C hw b_21 dX0_isBetter_21 ?_
  refine lv_aload_n hx hb dX0_isBetter_22 rfl (lv_at hl 1 rfl) ?_
  refine cG_8 C in_0 hw k_41 dX0_isBetter_23 ?_
  refine lv_lmul hx hb dX0_isBetter_26 ?_
  refine lv_aload_n hx hb dX0_isBetter_27 rfl (lv_at hl 1 rfl) ?_
  refine cG_3 C in_0 hw k_15 dX0_isBetter_28 ?_
  refine lv_iload hx hb dX0_isBetter_31 (lv_at hl 5 rfl) ?_
  obtain ⟨b_33, h⟩ := chk_of h
  refine cL_3 C hw b_33 dX0_isBetter_33 ?_
  refine lv_aload_n hx hb dX0_isBetter_34 rfl (lv_at hl 1 rfl) ?_
  refine cG_7 C in_0 hw k_37 dX0_isBetter_35 ?_
  refine lv_lmul hx hb dX0_isBetter_38 ?_
  refine lv_ladd hx hb dX0_isBetter_39 ?_
  refine lv_lstore (lv' := [(9, .long (((σ.2.2.2.1 2 x6.toNatClampNeg) * (σ.2.1 8)) + ((σ.2.2.2.1 3 x6.toNatClampNeg) * (σ.2.1 7)))), (7, .long ((x1 * (σ.2.1 8)) + (x3 * (σ.2.1 7)))), (0, .ref (ρ 99)), (1, .long x1), (3, .long x3), (5, .int x5), (6, .int x6)]) hx hb dX0_isBetter_40 hl (by decide) rfl (fun ls hl => ?_)
  refine lv_lload hx hb dX0_isBetter_42 (lv_at hl 1 rfl) ?_
  refine lv_lload hx hb dX0_isBetter_44 (lv_at hl 0 rfl) ?_
  refine W.lcmp hx hb dX0_isBetter_46 ?_
  refine lv_if_eq (tgt := 64) hx hb dX0_isBetter_47 (by decide) (fun c_47 => ?_) (fun c_47 => ?_)
  · have h := zz_pos c_47 h
    refine lv_aload_n hx hb dX0_isBetter_64 rfl (lv_at hl 2 rfl) ?_
    refine cG_9 C in_0 hw k_44 dX0_isBetter_65 ?_
    refine lv_if_eq (tgt := 122) hx hb dX0_isBetter_68 (by decide) (fun c_68 => ?_) (fun c_68 => ?_)
    · have h := zz_pos c_68 h
      exact wH_isBetter_J122 C hr hlk hw _ _ _ h (lv_sub hl [2, 5, 6] rfl)
    · have h := zz_neg c_68 h
      refine lv_lload_n hx hb dX0_isBetter_71 rfl (lv_at hl 4 rfl) ?_
      refine lv_aload_n hx hb dX0_isBetter_72 rfl (lv_at hl 2 rfl) ?_
      refine cG_3 C in_0 hw k_15 dX0_isBetter_73 ?_
      refine lv_iload hx hb dX0_isBetter_76 (lv_at hl 6 rfl) ?_
      obtain ⟨b_78, h⟩ := chk_of h
      refine cL_3 C hw b_78 dX0_isBetter_78 ?_
      refine W.lcmp hx hb dX0_isBetter_79 ?_
      refine lv_if_eq (tgt := 122) hx hb dX0_isBetter_80 (by decide) (fun c_80 => ?_) (fun c_80 => ?_)
      · have h := zz_pos c_80 h
        exact wH_isBetter_J122 C hr hlk hw _ _ _ h (lv_sub hl [2, 5, 6] rfl)
      · have h := zz_neg c_80 h
        refine lv_lload_n hx hb dX0_isBetter_83 rfl (lv_at hl 4 rfl) ?_
        refine lv_aload_n hx hb dX0_isBetter_84 rfl (lv_at hl 2 rfl) ?_
        refine cG_3 C in_0 hw k_15 dX0_isBetter_85 ?_
        refine lv_iload hx hb dX0_isBetter_88 (lv_at hl 6 rfl) ?_
        obtain ⟨b_90, h⟩ := chk_of h
        refine cL_3 C hw b_90 dX0_isBetter_90 ?_
        refine W.lcmp hx hb dX0_isBetter_91 ?_
        refine lv_if_le (tgt := 99) hx hb dX0_isBetter_92 (by decide) (fun c_92 => ?_) (fun c_92 => ?_)
        · have h := zz_pos c_92 h
          refine lv_iconst (v := (0 : Int32)) hx hb dX0_isBetter_99 (by decide) ?_
          exact wH_isBetter_J100 C hr hlk hw _ _ h (lv_sub hl [2] rfl)
        · have h := zz_neg c_92 h
          refine lv_iconst (v := (1 : Int32)) hx hb dX0_isBetter_95 (by decide) ?_
          refine lv_goto (tgt := 100) hx hb dX0_isBetter_96 (by decide) ?_
          exact wH_isBetter_J100 C hr hlk hw _ _ h (lv_sub hl [2] rfl)
  · have h := zz_neg c_47 h
    refine lv_lload hx hb dX0_isBetter_50 (lv_at hl 1 rfl) ?_
    refine lv_lload hx hb dX0_isBetter_52 (lv_at hl 0 rfl) ?_
    refine W.lcmp hx hb dX0_isBetter_54 ?_
    refine lv_if_ge (tgt := 62) hx hb dX0_isBetter_55 (by decide) (fun c_55 => ?_) (fun c_55 => ?_)
    · have h := zz_pos c_55 h
      refine lv_iconst (v := (0 : Int32)) hx hb dX0_isBetter_62 (by decide) ?_
      exact W.zret (ty := .boolean) hx hb hr (by decide +kernel) (fun t ht hW => ⟨by rw [some_of h], ht⟩) (fun _ h => by cases h) dX0_isBetter_63
    · have h := zz_neg c_55 h
      refine lv_iconst (v := (1 : Int32)) hx hb dX0_isBetter_58 (by decide) ?_
      refine lv_goto (tgt := 63) hx hb dX0_isBetter_59 (by decide) ?_
      exact W.zret (ty := .boolean) hx hb hr (by decide +kernel) (fun t ht hW => ⟨by rw [some_of h], ht⟩) (fun _ h => by cases h) dX0_isBetter_63
def fH_offerJoin_J155 (N : Nat) (σ : CSt) (x5 : Int32) (x6 : Int32) (x9 : Int64) (x11 : Int64) (x13 : Int32) : Option (CSt) := chk x5 16 (chk x5 16 (chk x5 16 (chk x5 16 (some (cA (cA (cB (cB σ 2 x5.toNatClampNeg x9) 3 x5.toNatClampNeg x11) 4 x5.toNatClampNeg x13) 5 x5.toNatClampNeg (vp_nar .boolean x6))))))
def fH_offerJoin (N : Nat) (σ : CSt) (x1 : Int32) (x2 : Int32) (x3 : Int32) (x4 : Int32) : Option (CSt) := (fQ_isInOrder N σ x1 x4).bind fun r_12 => (fQ_orderFactor N σ (x2 ||| x3) r_12).bind fun r_25 => chk x2 16 (chk x3 16 ((fZ_joinA N σ x1 x2 x3).bind fun r_51 => (fZ_sizeA N σ (x2 ||| x3)).bind fun r_63 => chk x2 16 (chk x3 16 ((fZ_joinB N σ x1 x2 x3).bind fun r_90 => (fZ_sizeB N σ (x2 ||| x3)).bind fun r_102 => chk x2 16 (chk x3 16 ((fP_joinedCode N x1 x2 (σ.2.2.1 4 x2.toNatClampNeg) x3 (σ.2.2.1 4 x3.toNatClampNeg)).bind fun r_124 => chk (x2 ||| x3) 16 ((if (σ.2.2.1 4 (x2 ||| x3).toNatClampNeg) = (-1 : Int32) then fH_offerJoin_J155 N σ (x2 ||| x3) r_12 ((((σ.2.2.2.1 2 x2.toNatClampNeg) + (σ.2.2.2.1 2 x3.toNatClampNeg)) + r_51) + (r_25.toInt64 * r_63)) ((((σ.2.2.2.1 3 x2.toNatClampNeg) + (σ.2.2.2.1 3 x3.toNatClampNeg)) + r_90) + (r_25.toInt64 * r_102)) r_124 else (fH_isBetter N σ ((((σ.2.2.2.1 2 x2.toNatClampNeg) + (σ.2.2.2.1 2 x3.toNatClampNeg)) + r_51) + (r_25.toInt64 * r_63)) ((((σ.2.2.2.1 3 x2.toNatClampNeg) + (σ.2.2.2.1 3 x3.toNatClampNeg)) + r_90) + (r_25.toInt64 * r_102)) r_124 (x2 ||| x3)).bind fun r_149 => (if r_149 = 0 then some σ else fH_offerJoin_J155 N σ (x2 ||| x3) r_12 ((((σ.2.2.2.1 2 x2.toNatClampNeg) + (σ.2.2.2.1 2 x3.toNatClampNeg)) + r_51) + (r_25.toInt64 * r_63)) ((((σ.2.2.2.1 3 x2.toNatClampNeg) + (σ.2.2.2.1 3 x3.toNatClampNeg)) + r_90) + (r_25.toInt64 * r_102)) r_124)))))))))
set_option maxRecDepth 100000 in
set_option maxHeartbeats 4000000 in
theorem wH_offerJoin_J155 {p : Program} {l : Launch} {e : Env} {s : State} {m : MethodId} {args : Array Value} {below : List Frame} {meth : Method} {c : Code} {D : va_G} {κ : Nat → ClassId} {ρ : Nat → Nat} {g0 : Gh} (C : CallFix p m c cX0_offerJoin 14 s args wsX0_offerJoin RX0) (hr : meth.sig.returnType = none) (hlk : meth.locks = false) {N : Nat} {q : CSt} : ∀ (σ : CSt) (x5 : Int32) (x6 : Int32) (x9 : Int64) (x11 : Int64) (x13 : Int32) (g : Gh) (H : Heap) (locs : List Loc) (ls : Array Slot), fH_offerJoin_J155 N σ x5 x6 x9 x11 x13 = some q → WC D κ ρ (AC ρ g0 s.heap.size) s.heap g σ s H locs → sub g0 g → lv_has ls 14 [(0, .ref (ρ 99)), (5, .int x5), (6, .int x6), (9, .long x9), (11, .long x11), (13, .int x13)] → W p l e ({ frames := 2, cells := 0, slots := 0, locals := 46 } : Room) s m args below meth c H locs 0 0 (MQ below (QC D κ ρ s.heap.size g0 q none) args s 0 0 (AC ρ g0 s.heap.size)) (F0 m 155 ls []) := by
  have hx := C.1
  have hb := C.2.1
  have hts := C.2.2.2.2
  have hown := C.2.2.2.1
  have k_9 := hts (.fieldLink RX0 9 "PlanCabinet$Chooser" "a" "[J") (by decide +kernel)
  have k_15 := hts (.fieldLink RX0 15 "PlanCabinet$Chooser" "b" "[J") (by decide +kernel)
  have k_18 := hts (.fieldLink RX0 18 "PlanCabinet$Chooser" "codes" "[I") (by decide +kernel)
  have k_22 := hts (.fieldLink RX0 22 "PlanCabinet$Chooser" "inOrder" "[Z") (by decide +kernel)
  have in_0 : ∀ w ∈ wsX00, w ∈ wsX0_offerJoin := by decide +kernel
  intro σ x5 x6 x9 x11 x13 g H locs ls h hw hg hl
  unfold fH_offerJoin_J155 at h
  refine lv_aload_n hx hb dX0_offerJoin_155 rfl (lv_at hl 0 rfl) ?_
  refine cG_2 C in_0 hw.1 k_9 dX0_offerJoin_156 ?_
  refine lv_iload hx hb dX0_offerJoin_159 (lv_at hl 1 rfl) ?_
  refine lv_lload hx hb dX0_offerJoin_161 (lv_at hl 3 rfl) ?_
  obtain ⟨b_163, h⟩ := chk_of h
  refine cS_2 C hw b_163 dX0_offerJoin_163 (fun H locs hw => ?_)
  refine lv_aload_n hx hb dX0_offerJoin_164 rfl (lv_at hl 0 rfl) ?_
  refine cG_3 C in_0 hw.1 k_15 dX0_offerJoin_165 ?_
  refine lv_iload hx hb dX0_offerJoin_168 (lv_at hl 1 rfl) ?_
  refine lv_lload hx hb dX0_offerJoin_170 (lv_at hl 4 rfl) ?_
  obtain ⟨b_172, h⟩ := chk_of h
  refine cS_3 C hw b_172 dX0_offerJoin_172 (fun H locs hw => ?_)
  refine lv_aload_n hx hb dX0_offerJoin_173 rfl (lv_at hl 0 rfl) ?_
  refine cG_4 C in_0 hw.1 k_18 dX0_offerJoin_174 ?_
  refine lv_iload hx hb dX0_offerJoin_177 (lv_at hl 1 rfl) ?_
  refine lv_iload hx hb dX0_offerJoin_179 (lv_at hl 5 rfl) ?_
  obtain ⟨b_181, h⟩ := chk_of h
  refine cS_4 C hw b_181 dX0_offerJoin_181 (fun H locs hw => ?_)
  refine lv_aload_n hx hb dX0_offerJoin_182 rfl (lv_at hl 0 rfl) ?_
  refine cG_5 C in_0 hw.1 k_22 dX0_offerJoin_183 ?_
  refine lv_iload hx hb dX0_offerJoin_186 (lv_at hl 1 rfl) ?_
  refine lv_iload hx hb dX0_offerJoin_188 (lv_at hl 2 rfl) ?_
  obtain ⟨b_190, h⟩ := chk_of h
  refine cS_5 C hw b_190 dX0_offerJoin_190 (fun H locs hw => ?_)
  exact W.vret hx hb hr (fun t ht hW => QC.of rfl (by rw [← some_of h]; exact hw) hg ht hW) hw.2.2.2.2 dX0_offerJoin_191
set_option maxRecDepth 100000 in
set_option maxHeartbeats 4000000 in
theorem cH_offerJoin {l : Launch} {D : va_G} {κ : Nat → ClassId} {ρ : Nat → Nat} {g0 : Gh} {sz : Nat} {N : Nat} {σ : CSt} {x1 : Int32} {x2 : Int32} {x3 : Int32} {x4 : Int32} {q : CSt} (h : fH_offerJoin N σ x1 x2 x3 x4 = some q) : Met l yX0_offerJoin wsX0_offerJoin ({ frames := 2, cells := 0, slots := 0, locals := 46 } : Room) (va_Pc [.ref (ρ 99), .int x1, .int x2, .int x3, .int x4] (PC D κ ρ sz g0 σ)) (QC D κ ρ sz g0 q none) 0 0 (AC ρ g0 sz) := by
  refine cMetM (Qc := fun z => QC D κ ρ z g0 q none) (ret := none) (by decide) rfl rfl (Nat.le_of_ble_eq_true rfl) ?_
  intro p e s m below meth c ls C hr hlk hw hl
  obtain ⟨g, eg⟩ : ∃ x, x = g0 := ⟨_, rfl⟩
  have hw : WC D κ ρ (AC ρ g0 s.heap.size) s.heap g σ s s.heap [] := by rw [eg]; exact hw
  have hg : sub g0 g := by rw [eg]; exact sub_rf g0
  have hl : lv_has ls 14 [(0, .ref (ρ 99)), (1, .int x1), (2, .int x2), (3, .int x3), (4, .int x4)] := hl
  unfold fH_offerJoin at h
  have hx := C.1
  have hb := C.2.1
  have hts := C.2.2.2.2
  have hown := C.2.2.2.1
  have k_9 := hts (.fieldLink RX0 9 "PlanCabinet$Chooser" "a" "[J") (by decide +kernel)
  have k_15 := hts (.fieldLink RX0 15 "PlanCabinet$Chooser" "b" "[J") (by decide +kernel)
  have k_18 := hts (.fieldLink RX0 18 "PlanCabinet$Chooser" "codes" "[I") (by decide +kernel)
  have k_29 := hts (.fieldLink RX0 29 "PlanCabinet$Chooser" "question" "LPlanCabinet$Question;") (by decide +kernel)
  have k_33 := hts (.fieldLink RX0 33 "PlanCabinet$Chooser" "prices" "LPlanCabinet$Prices;") (by decide +kernel)
  have in_0 : ∀ w ∈ wsX00, w ∈ wsX0_offerJoin := by decide +kernel
  refine lv_iload_n hx hb dX0_offerJoin_0 rfl (lv_at hl 2 rfl) ?_
  refine lv_iload_n hx hb dX0_offerJoin_1 rfl (lv_at hl 3 rfl) ?_
  refine lv_ior hx hb dX0_offerJoin_2 ?_
  refine lv_istore (lv' := [(5, .int (x2 ||| x3)), (0, .ref (ρ 99)), (1, .int x1), (2, .int x2), (3, .int x3), (4, .int x4)]) hx hb dX0_offerJoin_3 hl (by decide) rfl (fun ls hl => ?_)
  refine lv_aload_n hx hb dX0_offerJoin_5 rfl (lv_at hl 1 rfl) ?_
  refine cG_0 C in_0 hw.1 k_29 dX0_offerJoin_6 ?_
  refine lv_iload_n hx hb dX0_offerJoin_9 rfl (lv_at hl 2 rfl) ?_
  refine lv_iload hx hb dX0_offerJoin_10 (lv_at hl 5 rfl) ?_
  obtain ⟨r_12, e_12, h⟩ := bnd_of h
  refine callP (W.runV (As := [.int x1, .int x4]) C (cQ_isInOrder e_12) (cwV 2 hts gX0_offerJoin_X3_isInOrder rfl rfl rfl (by decide +kernel) ⟨by decide, by decide⟩) (preR (recv_399 hw.1) hw.1) rfl rfl hl.1 rfl (lv_room (Nat.le_of_ble_eq_true rfl)) dX0_offerJoin_12 ⟨Nat.zero_le _, Nat.zero_le _⟩) ?_
  refine lv_istore (lv' := [(6, .int r_12), (5, .int (x2 ||| x3)), (0, .ref (ρ 99)), (1, .int x1), (2, .int x2), (3, .int x3), (4, .int x4)]) hx hb dX0_offerJoin_15 hl (by decide) rfl (fun ls hl => ?_)
  refine lv_aload_n hx hb dX0_offerJoin_17 rfl (lv_at hl 2 rfl) ?_
  refine cG_0 C in_0 hw.1 k_29 dX0_offerJoin_18 ?_
  refine lv_iload hx hb dX0_offerJoin_21 (lv_at hl 1 rfl) ?_
  refine lv_iload hx hb dX0_offerJoin_23 (lv_at hl 0 rfl) ?_
  obtain ⟨r_25, e_25, h⟩ := bnd_of h
  refine callP (W.runV (As := [.int (x2 ||| x3), .int r_12]) C (cQ_orderFactor e_25) (cwV 2 hts gX0_offerJoin_X3_orderFactor rfl rfl rfl (by decide +kernel) ⟨by decide, by decide⟩) (preR (recv_399 hw.1) hw.1) rfl rfl hl.1 rfl (lv_room (Nat.le_of_ble_eq_true rfl)) dX0_offerJoin_25 ⟨Nat.zero_le _, Nat.zero_le _⟩) ?_
  refine lv_i2l hx hb dX0_offerJoin_28 rfl ?_
  refine lv_lstore (lv' := [(7, .long r_25.toInt64), (6, .int r_12), (5, .int (x2 ||| x3)), (0, .ref (ρ 99)), (1, .int x1), (2, .int x2), (3, .int x3), (4, .int x4)]) hx hb dX0_offerJoin_29 hl (by decide) rfl (fun ls hl => ?_)
  refine lv_aload_n hx hb dX0_offerJoin_31 rfl (lv_at hl 3 rfl) ?_
  refine cG_2 C in_0 hw.1 k_9 dX0_offerJoin_32 ?_
  refine lv_iload_n hx hb dX0_offerJoin_35 rfl (lv_at hl 5 rfl) ?_
  obtain ⟨b_36, h⟩ := chk_of h
  refine cL_2 C hw.1 b_36 dX0_offerJoin_36 ?_
  refine lv_aload_n hx hb dX0_offerJoin_37 rfl (lv_at hl 3 rfl) ?_
  refine cG_2 C in_0 hw.1 k_9 dX0_offerJoin_38 ?_
  refine lv_iload_n hx hb dX0_offerJoin_41 rfl (lv_at hl 6 rfl) ?_
  obtain ⟨b_42, h⟩ := chk_of h
  refine cL_2 C hw.1 b_42 dX0_offerJoin_42 ?_
  refine lv_ladd hx hb dX0_offerJoin_43 ?_
  refine lv_aload_n hx hb dX0_offerJoin_44 rfl (lv_at hl 3 rfl) ?_
  refine cG_1 C in_0 hw.1 k_33 dX0_offerJoin_45 ?_
  refine lv_iload_n hx hb dX0_offerJoin_48 rfl (lv_at hl 4 rfl) ?_
  refine lv_iload_n hx hb dX0_offerJoin_49 rfl (lv_at hl 5 rfl) ?_
  refine lv_iload_n hx hb dX0_offerJoin_50 rfl (lv_at hl 6 rfl) ?_
  obtain ⟨r_51, e_51, h⟩ := bnd_of h
  refine callP (W.runV (As := [.int x1, .int x2, .int x3]) C (cZ_joinA e_51) (cwV 3 hts gX0_offerJoin_X2_joinA rfl rfl rfl (by decide +kernel) ⟨by decide, by decide⟩) (preR (recv_299 hw.1) hw.1) rfl rfl hl.1 rfl (lv_room (Nat.le_of_ble_eq_true rfl)) dX0_offerJoin_51 ⟨Nat.zero_le _, Nat.zero_le _⟩) ?_
  refine lv_ladd hx hb dX0_offerJoin_54 ?_
  refine lv_lload hx hb dX0_offerJoin_55 (lv_at hl 0 rfl) ?_
  refine lv_aload_n hx hb dX0_offerJoin_57 rfl (lv_at hl 3 rfl) ?_
  refine cG_1 C in_0 hw.1 k_33 dX0_offerJoin_58 ?_
  refine lv_iload hx hb dX0_offerJoin_61 (lv_at hl 2 rfl) ?_
  obtain ⟨r_63, e_63, h⟩ := bnd_of h
  refine callP (W.runV (As := [.int (x2 ||| x3)]) C (cZ_sizeA e_63) (cwV 1 hts gX0_offerJoin_X2_sizeA rfl rfl rfl (by decide +kernel) ⟨by decide, by decide⟩) (preR (recv_299 hw.1) hw.1) rfl rfl hl.1 rfl (lv_room (Nat.le_of_ble_eq_true rfl)) dX0_offerJoin_63 ⟨Nat.zero_le _, Nat.zero_le _⟩) ?_
  refine lv_lmul hx hb dX0_offerJoin_66 ?_
  refine lv_ladd hx hb dX0_offerJoin_67 ?_
  refine lv_lstore (lv' := [(9, .long ((((σ.2.2.2.1 2 x2.toNatClampNeg) + (σ.2.2.2.1 2 x3.toNatClampNeg)) + r_51) + (r_25.toInt64 * r_63))), (7, .long r_25.toInt64), (6, .int r_12), (5, .int (x2 ||| x3)), (0, .ref (ρ 99)), (1, .int x1), (2, .int x2), (3, .int x3), (4, .int x4)]) hx hb dX0_offerJoin_68 hl (by decide) rfl (fun ls hl => ?_)
  refine lv_aload_n hx hb dX0_offerJoin_70 rfl (lv_at hl 4 rfl) ?_
  refine cG_3 C in_0 hw.1 k_15 dX0_offerJoin_71 ?_
  refine lv_iload_n hx hb dX0_offerJoin_74 rfl (lv_at hl 6 rfl) ?_
  obtain ⟨b_75, h⟩ := chk_of h
  refine cL_3 C hw.1 b_75 dX0_offerJoin_75 ?_
  refine lv_aload_n hx hb dX0_offerJoin_76 rfl (lv_at hl 4 rfl) ?_
  refine cG_3 C in_0 hw.1 k_15 dX0_offerJoin_77 ?_
  refine lv_iload_n hx hb dX0_offerJoin_80 rfl (lv_at hl 7 rfl) ?_
  obtain ⟨b_81, h⟩ := chk_of h
  refine cL_3 C hw.1 b_81 dX0_offerJoin_81 ?_
  refine lv_ladd hx hb dX0_offerJoin_82 ?_
  refine lv_aload_n hx hb dX0_offerJoin_83 rfl (lv_at hl 4 rfl) ?_
  refine cG_1 C in_0 hw.1 k_33 dX0_offerJoin_84 ?_
  refine lv_iload_n hx hb dX0_offerJoin_87 rfl (lv_at hl 5 rfl) ?_
  refine lv_iload_n hx hb dX0_offerJoin_88 rfl (lv_at hl 6 rfl) ?_
  refine lv_iload_n hx hb dX0_offerJoin_89 rfl (lv_at hl 7 rfl) ?_
  obtain ⟨r_90, e_90, h⟩ := bnd_of h
  refine callP (W.runV (As := [.int x1, .int x2, .int x3]) C (cZ_joinB e_90) (cwV 3 hts gX0_offerJoin_X2_joinB rfl rfl rfl (by decide +kernel) ⟨by decide, by decide⟩) (preR (recv_299 hw.1) hw.1) rfl rfl hl.1 rfl (lv_room (Nat.le_of_ble_eq_true rfl)) dX0_offerJoin_90 ⟨Nat.zero_le _, Nat.zero_le _⟩) ?_
  refine lv_ladd hx hb dX0_offerJoin_93 ?_
  refine lv_lload hx hb dX0_offerJoin_94 (lv_at hl 1 rfl) ?_
  refine lv_aload_n hx hb dX0_offerJoin_96 rfl (lv_at hl 4 rfl) ?_
  refine cG_1 C in_0 hw.1 k_33 dX0_offerJoin_97 ?_
  refine lv_iload hx hb dX0_offerJoin_100 (lv_at hl 3 rfl) ?_
  obtain ⟨r_102, e_102, h⟩ := bnd_of h
  refine callP (W.runV (As := [.int (x2 ||| x3)]) C (cZ_sizeB e_102) (cwV 1 hts gX0_offerJoin_X2_sizeB rfl rfl rfl (by decide +kernel) ⟨by decide, by decide⟩) (preR (recv_299 hw.1) hw.1) rfl rfl hl.1 rfl (lv_room (Nat.le_of_ble_eq_true rfl)) dX0_offerJoin_102 ⟨Nat.zero_le _, Nat.zero_le _⟩) ?_
  refine lv_lmul hx hb dX0_offerJoin_105 ?_
  refine lv_ladd hx hb dX0_offerJoin_106 ?_
  refine lv_lstore (lv' := [(11, .long ((((σ.2.2.2.1 3 x2.toNatClampNeg) + (σ.2.2.2.1 3 x3.toNatClampNeg)) + r_90) + (r_25.toInt64 * r_102))), (9, .long ((((σ.2.2.2.1 2 x2.toNatClampNeg) + (σ.2.2.2.1 2 x3.toNatClampNeg)) + r_51) + (r_25.toInt64 * r_63))), (7, .long r_25.toInt64), (6, .int r_12), (5, .int (x2 ||| x3)), (0, .ref (ρ 99)), (1, .int x1), (2, .int x2), (3, .int x3), (4, .int x4)]) hx hb dX0_offerJoin_107 hl (by decide) rfl (fun ls hl => ?_)
  refine lv_iload_n hx hb dX0_offerJoin_109 rfl (lv_at hl 6 rfl) ?_
  refine lv_iload_n hx hb dX0_offerJoin_110 rfl (lv_at hl 7 rfl) ?_
  refine lv_aload_n hx hb dX0_offerJoin_111 rfl (lv_at hl 5 rfl) ?_
  refine cG_4 C in_0 hw.1 k_18 dX0_offerJoin_112 ?_
  refine lv_iload_n hx hb dX0_offerJoin_115 rfl (lv_at hl 7 rfl) ?_
  obtain ⟨b_116, h⟩ := chk_of h
  refine cL_4 C hw.1 b_116 dX0_offerJoin_116 ?_
  refine lv_iload_n hx hb dX0_offerJoin_117 rfl (lv_at hl 8 rfl) ?_
  refine lv_aload_n hx hb dX0_offerJoin_118 rfl (lv_at hl 5 rfl) ?_
  refine cG_4 C in_0 hw.1 k_18 dX0_offerJoin_119 ?_
  refine lv_iload_n hx hb dX0_offerJoin_122 rfl (lv_at hl 8 rfl) ?_
  obtain ⟨b_123, h⟩ := chk_of h
  refine cL_4 C hw.1 b_123 dX0_offerJoin_123 ?_
  obtain ⟨r_124, e_124, h⟩ := bnd_of h
  refine callP (W.runS (As := [.int x1, .int x2, .int (σ.2.2.1 4 x2.toNatClampNeg), .int x3, .int (σ.2.2.1 4 x3.toNatClampNeg)]) C (cP_joinedCode e_124) (va_cwS 5 hts gX0_offerJoin_X1_joinedCode rfl rfl rfl (by decide +kernel) ⟨by decide, by decide⟩) preT rfl rfl hl.1 rfl (lv_room (Nat.le_of_ble_eq_true rfl)) dX0_offerJoin_124 ⟨Nat.zero_le _, Nat.zero_le _⟩) ?_
  refine lv_istore (lv' := [(13, .int r_124), (11, .long ((((σ.2.2.2.1 3 x2.toNatClampNeg) + (σ.2.2.2.1 3 x3.toNatClampNeg)) + r_90) + (r_25.toInt64 * r_102))), (9, .long ((((σ.2.2.2.1 2 x2.toNatClampNeg) + (σ.2.2.2.1 2 x3.toNatClampNeg)) + r_51) + (r_25.toInt64 * r_63))), (7, .long r_25.toInt64), (6, .int r_12), (5, .int (x2 ||| x3)), (0, .ref (ρ 99)), (1, .int x1), (2, .int x2), (3, .int x3), (4, .int x4)]) hx hb dX0_offerJoin_127 hl (by decide) rfl (fun ls hl => ?_)
  refine lv_aload_n hx hb dX0_offerJoin_129 rfl (lv_at hl 6 rfl) ?_
  refine cG_4 C in_0 hw.1 k_18 dX0_offerJoin_130 ?_
  refine lv_iload hx hb dX0_offerJoin_133 (lv_at hl 5 rfl) ?_
  obtain ⟨b_135, h⟩ := chk_of h
  refine cL_4 C hw.1 b_135 dX0_offerJoin_135 ?_
  refine lv_iconst (v := (-1 : Int32)) hx hb dX0_offerJoin_136 (by decide) ?_
  refine lv_icmp_eq (tgt := 155) hx hb dX0_offerJoin_137 (by decide) (fun c_137 => ?_) (fun c_137 => ?_)
  · have h := zz_pos c_137 h
    exact wH_offerJoin_J155 C hr hlk  _ _ _ _ _ _ _ _ _ _ h hw hg (lv_sub hl [6, 5, 4, 2, 1, 0] rfl)
  · have h := zz_neg c_137 h
    refine lv_aload_n hx hb dX0_offerJoin_140 rfl (lv_at hl 6 rfl) ?_
    refine lv_lload hx hb dX0_offerJoin_141 (lv_at hl 2 rfl) ?_
    refine lv_lload hx hb dX0_offerJoin_143 (lv_at hl 1 rfl) ?_
    refine lv_iload hx hb dX0_offerJoin_145 (lv_at hl 0 rfl) ?_
    refine lv_iload hx hb dX0_offerJoin_147 (lv_at hl 5 rfl) ?_
    obtain ⟨r_149, e_149, h⟩ := bnd_of h
    refine callP (W.runV (As := [.long ((((σ.2.2.2.1 2 x2.toNatClampNeg) + (σ.2.2.2.1 2 x3.toNatClampNeg)) + r_51) + (r_25.toInt64 * r_63)), .long ((((σ.2.2.2.1 3 x2.toNatClampNeg) + (σ.2.2.2.1 3 x3.toNatClampNeg)) + r_90) + (r_25.toInt64 * r_102)), .int r_124, .int (x2 ||| x3)]) C (cH_isBetter e_149) (cwV 4 hts gX0_offerJoin_X0_isBetter rfl rfl rfl (by decide +kernel) ⟨by decide, by decide⟩) (preR (recv_99 hw.1) hw.1) rfl rfl hl.1 rfl (lv_room (Nat.le_of_ble_eq_true rfl)) dX0_offerJoin_149 ⟨Nat.zero_le _, Nat.zero_le _⟩) ?_
    refine lv_if_eq (tgt := 191) hx hb dX0_offerJoin_152 (by decide) (fun c_152 => ?_) (fun c_152 => ?_)
    · have h := zz_pos c_152 h
      exact W.vret hx hb hr (fun t ht hW => QC.of rfl (by rw [← some_of h]; exact hw) hg ht hW) hw.2.2.2.2 dX0_offerJoin_191
    · have h := zz_neg c_152 h
      exact wH_offerJoin_J155 C hr hlk  _ _ _ _ _ _ _ _ _ _ h hw hg (lv_sub hl [6, 5, 4, 2, 1, 0] rfl)
def fH_offerJoins_J31 (N : Nat) (K2 : CSt → Int32 → Int32 → Option (CSt)) (σ : CSt) (x1 : Int32) (x2 : Int32) (x3 : Int32) (y0 : Int32) : Option (CSt) := (if y0 = (-1 : Int32) then K2 σ x1 (x2 + 1) else chk x2 16 ((if (σ.2.2.1 4 x2.toNatClampNeg) = (-1 : Int32) then K2 σ x1 (x2 + 1) else chk x3 16 ((if (σ.2.2.1 4 x3.toNatClampNeg) = (-1 : Int32) then K2 σ x1 (x2 + 1) else (fH_offerJoin N σ (0 : Int32) x2 x3 y0).bind fun r_65 => (fH_offerJoin N r_65 (1 : Int32) x2 x3 y0).bind fun r_74 => (fH_offerJoin N r_74 (2 : Int32) x2 x3 y0).bind fun r_83 => K2 r_83 x1 (x2 + 1))))))
def fH_offerJoins_L2 (N : Nat) : Nat → CSt → Int32 → Int32 → Option (CSt)
  | 0, _, _, _ => none
  | n + 1, σ, x1, x2 => (if x1 ≤ x2 then some σ else (if (x2 &&& x1) = x2 then (fQ_leastBetween N σ x2 (x1 ^^^ x2)).bind fun r_24 => fH_offerJoins_J31 N (fun (σ : CSt) (x1 : Int32) (x2 : Int32) => fH_offerJoins_L2 N n σ x1 x2) σ x1 x2 (x1 ^^^ x2) r_24 else fH_offerJoins_J31 N (fun (σ : CSt) (x1 : Int32) (x2 : Int32) => fH_offerJoins_L2 N n σ x1 x2) σ x1 x2 (x1 ^^^ x2) (-1 : Int32)))
def fH_offerJoins (N : Nat) (σ : CSt) (x1 : Int32) : Option (CSt) := fH_offerJoins_L2 N N σ x1 (1 : Int32)
set_option maxRecDepth 100000 in
set_option maxHeartbeats 4000000 in
theorem wH_offerJoins_J31 {p : Program} {l : Launch} {e : Env} {s : State} {m : MethodId} {args : Array Value} {below : List Frame} {meth : Method} {c : Code} {D : va_G} {κ : Nat → ClassId} {ρ : Nat → Nat} {g0 : Gh} (C : CallFix p m c cX0_offerJoins 5 s args wsX0_offerJoins RX0) (hr : meth.sig.returnType = none) (hlk : meth.locks = false) {N : Nat} {q : CSt} {K2 : CSt → Int32 → Int32 → Option (CSt)} : ∀ (σ : CSt) (x1 : Int32) (x2 : Int32) (x3 : Int32) (y0 : Int32) (g : Gh) (H : Heap) (locs : List Loc) (ls : Array Slot), fH_offerJoins_J31 N K2 σ x1 x2 x3 y0 = some q → WC D κ ρ (AC ρ g0 s.heap.size) s.heap g σ s H locs → sub g0 g → lv_has ls 5 [(0, .ref (ρ 99)), (1, .int x1), (2, .int x2), (3, .int x3)] → (∀ (σ : CSt) (x1 : Int32) (x2 : Int32) (g : Gh) (H : Heap) (locs : List Loc) (ls : Array Slot), K2 σ x1 x2 = some q → WC D κ ρ (AC ρ g0 s.heap.size) s.heap g σ s H locs → sub g0 g → lv_has ls 5 [(0, .ref (ρ 99)), (1, .int x1), (2, .int x2)] → W p l e ({ frames := 3, cells := 0, slots := 0, locals := 79 } : Room) s m args below meth c H locs 0 0 (MQ below (QC D κ ρ s.heap.size g0 q none) args s 0 0 (AC ρ g0 s.heap.size)) (F0 m 2 ls [])) → W p l e ({ frames := 3, cells := 0, slots := 0, locals := 79 } : Room) s m args below meth c H locs 0 0 (MQ below (QC D κ ρ s.heap.size g0 q none) args s 0 0 (AC ρ g0 s.heap.size)) (F0 m 31 ls [.int y0]) := by
  have hx := C.1
  have hb := C.2.1
  have hts := C.2.2.2.2
  have hown := C.2.2.2.1
  have k_18 := hts (.fieldLink RX0 18 "PlanCabinet$Chooser" "codes" "[I") (by decide +kernel)
  have in_0 : ∀ w ∈ wsX00, w ∈ wsX0_offerJoins := by decide +kernel
  intro σ x1 x2 x3 y0 g H locs ls h hw hg hl hK2
  unfold fH_offerJoins_J31 at h
  refine lv_istore (lv' := [(4, .int y0), (0, .ref (ρ 99)), (1, .int x1), (2, .int x2), (3, .int x3)]) hx hb dX0_offerJoins_31 hl (by decide) rfl (fun ls hl => ?_)
  refine lv_iload hx hb dX0_offerJoins_33 (lv_at hl 0 rfl) ?_
  refine lv_iconst (v := (-1 : Int32)) hx hb dX0_offerJoins_35 (by decide) ?_
  refine lv_icmp_eq (tgt := 86) hx hb dX0_offerJoins_36 (by decide) (fun c_36 => ?_) (fun c_36 => ?_)
  · have h := zz_pos c_36 h
    refine lv_iinc (v := (x2 + 1)) (lv' := [(2, .int (x2 + 1)), (4, .int y0), (0, .ref (ρ 99)), (1, .int x1), (3, .int x3)]) hx hb dX0_offerJoins_86 hl (k := 3) rfl rfl (by decide) rfl (fun ls hl => ?_)
    refine lv_goto (tgt := 2) hx hb dX0_offerJoins_89 (by decide) ?_
    exact hK2 _ _ _ _ _ _ _ h hw hg (lv_sub hl [2, 3, 0] rfl)
  · have h := zz_neg c_36 h
    refine lv_aload_n hx hb dX0_offerJoins_39 rfl (lv_at hl 1 rfl) ?_
    refine cG_4 C in_0 hw.1 k_18 dX0_offerJoins_40 ?_
    refine lv_iload_n hx hb dX0_offerJoins_43 rfl (lv_at hl 3 rfl) ?_
    obtain ⟨b_44, h⟩ := chk_of h
    refine cL_4 C hw.1 b_44 dX0_offerJoins_44 ?_
    refine lv_iconst (v := (-1 : Int32)) hx hb dX0_offerJoins_45 (by decide) ?_
    refine lv_icmp_eq (tgt := 86) hx hb dX0_offerJoins_46 (by decide) (fun c_46 => ?_) (fun c_46 => ?_)
    · have h := zz_pos c_46 h
      refine lv_iinc (v := (x2 + 1)) (lv' := [(2, .int (x2 + 1)), (4, .int y0), (0, .ref (ρ 99)), (1, .int x1), (3, .int x3)]) hx hb dX0_offerJoins_86 hl (k := 3) rfl rfl (by decide) rfl (fun ls hl => ?_)
      refine lv_goto (tgt := 2) hx hb dX0_offerJoins_89 (by decide) ?_
      exact hK2 _ _ _ _ _ _ _ h hw hg (lv_sub hl [2, 3, 0] rfl)
    · have h := zz_neg c_46 h
      refine lv_aload_n hx hb dX0_offerJoins_49 rfl (lv_at hl 1 rfl) ?_
      refine cG_4 C in_0 hw.1 k_18 dX0_offerJoins_50 ?_
      refine lv_iload_n hx hb dX0_offerJoins_53 rfl (lv_at hl 4 rfl) ?_
      obtain ⟨b_54, h⟩ := chk_of h
      refine cL_4 C hw.1 b_54 dX0_offerJoins_54 ?_
      refine lv_iconst (v := (-1 : Int32)) hx hb dX0_offerJoins_55 (by decide) ?_
      refine lv_icmp_eq (tgt := 86) hx hb dX0_offerJoins_56 (by decide) (fun c_56 => ?_) (fun c_56 => ?_)
      · have h := zz_pos c_56 h
        refine lv_iinc (v := (x2 + 1)) (lv' := [(2, .int (x2 + 1)), (4, .int y0), (0, .ref (ρ 99)), (1, .int x1), (3, .int x3)]) hx hb dX0_offerJoins_86 hl (k := 3) rfl rfl (by decide) rfl (fun ls hl => ?_)
        refine lv_goto (tgt := 2) hx hb dX0_offerJoins_89 (by decide) ?_
        exact hK2 _ _ _ _ _ _ _ h hw hg (lv_sub hl [2, 3, 0] rfl)
      · have h := zz_neg c_56 h
        refine lv_aload_n hx hb dX0_offerJoins_59 rfl (lv_at hl 1 rfl) ?_
        refine lv_iconst (v := (0 : Int32)) hx hb dX0_offerJoins_60 (by decide) ?_
        refine lv_iload_n hx hb dX0_offerJoins_61 rfl (lv_at hl 3 rfl) ?_
        refine lv_iload_n hx hb dX0_offerJoins_62 rfl (lv_at hl 4 rfl) ?_
        refine lv_iload hx hb dX0_offerJoins_63 (lv_at hl 0 rfl) ?_
        obtain ⟨r_65, e_65, h⟩ := bnd_of h
        refine callC (va_runV (As := [.int (0 : Int32), .int x2, .int x3, .int y0]) C (cH_offerJoin e_65) (cwV 4 hts gX0_offerJoins_X0_offerJoin rfl rfl rfl (by decide +kernel) ⟨by decide, by decide⟩) (preM (recv_99 hw.1) hw) rfl rfl hl.1 rfl (lv_room (Nat.le_of_ble_eq_true rfl)) dX0_offerJoins_65 ⟨Nat.zero_le _, Nat.zero_le _⟩) hw (fun _ h => Or.inr h) (fun g H locs hs hw => ?_)
        have hg := sub_tr hg hs
        refine lv_aload_n hx hb dX0_offerJoins_68 rfl (lv_at hl 1 rfl) ?_
        refine lv_iconst (v := (1 : Int32)) hx hb dX0_offerJoins_69 (by decide) ?_
        refine lv_iload_n hx hb dX0_offerJoins_70 rfl (lv_at hl 3 rfl) ?_
        refine lv_iload_n hx hb dX0_offerJoins_71 rfl (lv_at hl 4 rfl) ?_
        refine lv_iload hx hb dX0_offerJoins_72 (lv_at hl 0 rfl) ?_
        obtain ⟨r_74, e_74, h⟩ := bnd_of h
        refine callC (va_runV (As := [.int (1 : Int32), .int x2, .int x3, .int y0]) C (cH_offerJoin e_74) (cwV 4 hts gX0_offerJoins_X0_offerJoin rfl rfl rfl (by decide +kernel) ⟨by decide, by decide⟩) (preM (recv_99 hw.1) hw) rfl rfl hl.1 rfl (lv_room (Nat.le_of_ble_eq_true rfl)) dX0_offerJoins_74 ⟨Nat.zero_le _, Nat.zero_le _⟩) hw (fun _ h => Or.inr h) (fun g H locs hs hw => ?_)
        have hg := sub_tr hg hs
        refine lv_aload_n hx hb dX0_offerJoins_77 rfl (lv_at hl 1 rfl) ?_
        refine lv_iconst (v := (2 : Int32)) hx hb dX0_offerJoins_78 (by decide) ?_
        refine lv_iload_n hx hb dX0_offerJoins_79 rfl (lv_at hl 3 rfl) ?_
        refine lv_iload_n hx hb dX0_offerJoins_80 rfl (lv_at hl 4 rfl) ?_
        refine lv_iload hx hb dX0_offerJoins_81 (lv_at hl 0 rfl) ?_
        obtain ⟨r_83, e_83, h⟩ := bnd_of h
        refine callC (va_runV (As := [.int (2 : Int32), .int x2, .int x3, .int y0]) C (cH_offerJoin e_83) (cwV 4 hts gX0_offerJoins_X0_offerJoin rfl rfl rfl (by decide +kernel) ⟨by decide, by decide⟩) (preM (recv_99 hw.1) hw) rfl rfl hl.1 rfl (lv_room (Nat.le_of_ble_eq_true rfl)) dX0_offerJoins_83 ⟨Nat.zero_le _, Nat.zero_le _⟩) hw (fun _ h => Or.inr h) (fun g H locs hs hw => ?_)
        have hg := sub_tr hg hs
        refine lv_iinc (v := (x2 + 1)) (lv' := [(2, .int (x2 + 1)), (4, .int y0), (0, .ref (ρ 99)), (1, .int x1), (3, .int x3)]) hx hb dX0_offerJoins_86 hl (k := 3) rfl rfl (by decide) rfl (fun ls hl => ?_)
        refine lv_goto (tgt := 2) hx hb dX0_offerJoins_89 (by decide) ?_
        exact hK2 _ _ _ _ _ _ _ h hw hg (lv_sub hl [2, 3, 0] rfl)
set_option maxRecDepth 100000 in
set_option maxHeartbeats 4000000 in
theorem wH_offerJoins_L2 {p : Program} {l : Launch} {e : Env} {s : State} {m : MethodId} {args : Array Value} {below : List Frame} {meth : Method} {c : Code} {D : va_G} {κ : Nat → ClassId} {ρ : Nat → Nat} {g0 : Gh} (C : CallFix p m c cX0_offerJoins 5 s args wsX0_offerJoins RX0) (hr : meth.sig.returnType = none) (hlk : meth.locks = false) {N : Nat} {q : CSt} : ∀ (n : Nat) (σ : CSt) (x1 : Int32) (x2 : Int32) (g : Gh) (H : Heap) (locs : List Loc) (ls : Array Slot), fH_offerJoins_L2 N n σ x1 x2 = some q → WC D κ ρ (AC ρ g0 s.heap.size) s.heap g σ s H locs → sub g0 g → lv_has ls 5 [(0, .ref (ρ 99)), (1, .int x1), (2, .int x2)] → W p l e ({ frames := 3, cells := 0, slots := 0, locals := 79 } : Room) s m args below meth c H locs 0 0 (MQ below (QC D κ ρ s.heap.size g0 q none) args s 0 0 (AC ρ g0 s.heap.size)) (F0 m 2 ls []) := by
  have hx := C.1
  have hb := C.2.1
  have hts := C.2.2.2.2
  have hown := C.2.2.2.1
  have k_29 := hts (.fieldLink RX0 29 "PlanCabinet$Chooser" "question" "LPlanCabinet$Question;") (by decide +kernel)
  have in_0 : ∀ w ∈ wsX00, w ∈ wsX0_offerJoins := by decide +kernel
  intro n
  induction n with
  | zero =>
    intro σ x1 x2 g H locs ls h hw hg hl
    rw [fH_offerJoins_L2] at h
    cases h
  | succ n ih =>
    intro σ x1 x2 g H locs ls h hw hg hl
    rw [fH_offerJoins_L2] at h
    refine lv_iload_n hx hb dX0_offerJoins_2 rfl (lv_at hl 2 rfl) ?_
    refine lv_iload_n hx hb dX0_offerJoins_3 rfl (lv_at hl 1 rfl) ?_
    refine lv_icmp_ge (tgt := 92) hx hb dX0_offerJoins_4 (by decide) (fun c_4 => ?_) (fun c_4 => ?_)
    · have h := zz_pos c_4 h
      exact W.vret hx hb hr (fun t ht hW => QC.of rfl (by rw [← some_of h]; exact hw) hg ht hW) hw.2.2.2.2 dX0_offerJoins_92
    · have h := zz_neg c_4 h
      refine lv_iload_n hx hb dX0_offerJoins_7 rfl (lv_at hl 1 rfl) ?_
      refine lv_iload_n hx hb dX0_offerJoins_8 rfl (lv_at hl 2 rfl) ?_
      refine lv_ixor hx hb dX0_offerJoins_9 ?_
      refine lv_istore_n (lv' := [(3, .int (x1 ^^^ x2)), (0, .ref (ρ 99)), (1, .int x1), (2, .int x2)]) hx hb dX0_offerJoins_10 rfl hl (by decide) rfl (fun ls hl => ?_)
      refine lv_iload_n hx hb dX0_offerJoins_11 rfl (lv_at hl 3 rfl) ?_
      refine lv_iload_n hx hb dX0_offerJoins_12 rfl (lv_at hl 2 rfl) ?_
      refine lv_iand hx hb dX0_offerJoins_13 ?_
      refine lv_iload_n hx hb dX0_offerJoins_14 rfl (lv_at hl 3 rfl) ?_
      refine lv_icmp_ne (tgt := 30) hx hb dX0_offerJoins_15 (by decide) (fun c_15 => ?_) (fun c_15 => ?_)
      · have h := zz_neg c_15 h
        refine lv_iconst (v := (-1 : Int32)) hx hb dX0_offerJoins_30 (by decide) ?_
        refine wH_offerJoins_J31 C hr hlk  _ _ _ _ _ _ _ _ _ h hw hg (lv_sub hl [1, 2, 3, 0] rfl) ?_
        intro σ x1 x2 g H locs ls h hw hg hl
        exact ih _ _ _ _ _ _ _ h hw hg (lv_sub hl [0, 1, 2] rfl)
      · have h := zz_pos c_15 h
        refine lv_aload_n hx hb dX0_offerJoins_18 rfl (lv_at hl 1 rfl) ?_
        refine cG_0 C in_0 hw.1 k_29 dX0_offerJoins_19 ?_
        refine lv_iload_n hx hb dX0_offerJoins_22 rfl (lv_at hl 3 rfl) ?_
        refine lv_iload_n hx hb dX0_offerJoins_23 rfl (lv_at hl 0 rfl) ?_
        obtain ⟨r_24, e_24, h⟩ := bnd_of h
        refine callP (W.runV (As := [.int x2, .int (x1 ^^^ x2)]) C (cQ_leastBetween e_24) (cwV 2 hts gX0_offerJoins_X3_leastBetween rfl rfl rfl (by decide +kernel) ⟨by decide, by decide⟩) (preR (recv_399 hw.1) hw.1) rfl rfl hl.1 rfl (lv_room (Nat.le_of_ble_eq_true rfl)) dX0_offerJoins_24 ⟨Nat.zero_le _, Nat.zero_le _⟩) ?_
        refine lv_goto (tgt := 31) hx hb dX0_offerJoins_27 (by decide) ?_
        refine wH_offerJoins_J31 C hr hlk  _ _ _ _ _ _ _ _ _ h hw hg (lv_sub hl [1, 2, 3, 0] rfl) ?_
        intro σ x1 x2 g H locs ls h hw hg hl
        exact ih _ _ _ _ _ _ _ h hw hg (lv_sub hl [0, 1, 2] rfl)
set_option maxRecDepth 100000 in
set_option maxHeartbeats 4000000 in
theorem cH_offerJoins {l : Launch} {D : va_G} {κ : Nat → ClassId} {ρ : Nat → Nat} {g0 : Gh} {sz : Nat} {N : Nat} {σ : CSt} {x1 : Int32} {q : CSt} (h : fH_offerJoins N σ x1 = some q) : Met l yX0_offerJoins wsX0_offerJoins ({ frames := 3, cells := 0, slots := 0, locals := 79 } : Room) (va_Pc [.ref (ρ 99), .int x1] (PC D κ ρ sz g0 σ)) (QC D κ ρ sz g0 q none) 0 0 (AC ρ g0 sz) := by
  refine cMetM (Qc := fun z => QC D κ ρ z g0 q none) (ret := none) (by decide) rfl rfl (Nat.le_of_ble_eq_true rfl) ?_
  intro p e s m below meth c ls C hr hlk hw hl
  obtain ⟨g, eg⟩ : ∃ x, x = g0 := ⟨_, rfl⟩
  have hw : WC D κ ρ (AC ρ g0 s.heap.size) s.heap g σ s s.heap [] := by rw [eg]; exact hw
  have hg : sub g0 g := by rw [eg]; exact sub_rf g0
  have hl : lv_has ls 5 [(0, .ref (ρ 99)), (1, .int x1)] := hl
  unfold fH_offerJoins at h
  have hx := C.1
  have hb := C.2.1
  have hts := C.2.2.2.2
  have hown := C.2.2.2.1
  refine lv_iconst (v := (1 : Int32)) hx hb dX0_offerJoins_0 (by decide) ?_
  refine lv_istore_n (lv' := [(2, .int (1 : Int32)), (0, .ref (ρ 99)), (1, .int x1)]) hx hb dX0_offerJoins_1 rfl hl (by decide) rfl (fun ls hl => ?_)
  exact wH_offerJoins_L2 C hr hlk  _ _ _ _ _ _ _ _ h hw hg (lv_sub hl [1, 2, 0] rfl)
def fH_cheapest_L28 (N : Nat) (K49 : CSt → Int32 → Option ((Option Pl) × CSt)) : Nat → CSt → Int32 → Int32 → Option ((Option Pl) × CSt)
  | 0, _, _, _ => none
  | n + 1, σ, x6, x7 => (if (16 : Int32) ≤ x7 then K49 σ x6 else chk x7 16 (fH_cheapest_L28 N K49 n (cA σ 4 x7.toNatClampNeg (-1 : Int32)) x6 (x7 + 1)))
def fH_cheapest_L52 (N : Nat) (K82 : CSt → Int32 → Option ((Option Pl) × CSt)) : Nat → CSt → Int32 → Int32 → Option ((Option Pl) × CSt)
  | 0, _, _, _ => none
  | n + 1, σ, x6, x7 => (if (σ.1 300) ≤ x7 then K82 σ x6 else (if (4 : Int32) ≤ x7 then K82 σ x6 else (fH_offerRead N σ x7).bind fun r_73 => fH_cheapest_L52 N K82 n r_73 x6 (x7 + 1)))
def fH_cheapest_L85 (N : Nat) (K111 : CSt → Int32 → Option ((Option Pl) × CSt)) : Nat → CSt → Int32 → Int32 → Option ((Option Pl) × CSt)
  | 0, _, _, _ => none
  | n + 1, σ, x6, x7 => (if x6 < x7 then K111 σ x6 else (if (16 : Int32) ≤ x7 then K111 σ x6 else (fH_offerJoins N σ x7).bind fun r_102 => fH_cheapest_L85 N K111 n r_102 x6 (x7 + 1)))
def fH_cheapest_J111 (N : Nat) (σ : CSt) (x6 : Int32) : Option ((Option Pl) × CSt) := (if x6 ≤ 0 then some (none, σ) else (if (16 : Int32) ≤ x6 then some (none, σ) else chk x6 16 ((if (σ.2.2.1 4 x6.toNatClampNeg) = (-1 : Int32) then some (none, σ) else chk x6 16 (chk x6 16 (chk x6 16 (chk x6 16 (bt (σ.2.2.1 5 x6.toNatClampNeg) (some ((some (x6, (σ.2.2.1 4 x6.toNatClampNeg), (σ.2.2.2.1 2 x6.toNatClampNeg), (σ.2.2.2.1 3 x6.toNatClampNeg), (σ.2.2.1 5 x6.toNatClampNeg))), σ))))))))))
def fH_cheapest_J82 (N : Nat) (σ : CSt) (x6 : Int32) : Option ((Option Pl) × CSt) := fH_cheapest_L85 N (fun (σ : CSt) (x6 : Int32) => fH_cheapest_J111 N σ x6) N σ x6 (1 : Int32)
def fH_cheapest (N : Nat) (σ : CSt) (x1 : Int64) (x3 : Int64) (x5 : Int32) : Option ((Option Pl) × CSt) := (fQ_allTables N (cI (cJ (cJ σ 7 x1) 8 x3) 9 x5)).bind fun r_20 => fH_cheapest_L28 N (fun (σ : CSt) (x6 : Int32) => fH_cheapest_L52 N (fun (σ : CSt) (x6 : Int32) => fH_cheapest_J82 N σ x6) N σ x6 (0 : Int32)) N (cI (cJ (cJ σ 7 x1) 8 x3) 9 x5) r_20 (0 : Int32)
set_option maxRecDepth 100000 in
set_option maxHeartbeats 4000000 in
theorem wH_cheapest_L28 {p : Program} {l : Launch} {e : Env} {s : State} {m : MethodId} {args : Array Value} {below : List Frame} {meth : Method} {c : Code} {D : va_G} {κ : Nat → ClassId} {ρ : Nat → Nat} {g0 : Gh} (C : CallFix p m c cX0_cheapest 8 s args wsX0_cheapest RX0) (hr : meth.sig.returnType = (some (.object "PlanCabinet$Plan"))) (hlk : meth.locks = false) {N : Nat} {q : (Option Pl) × CSt} {K49 : CSt → Int32 → Option ((Option Pl) × CSt)} : ∀ (n : Nat) (σ : CSt) (x6 : Int32) (x7 : Int32) (g : Gh) (H : Heap) (locs : List Loc) (ce : Nat) (sl : Nat) (ls : Array Slot), fH_cheapest_L28 N K49 n σ x6 x7 = some q → WC D κ ρ (AC ρ g0 s.heap.size) s.heap g σ s H locs → sub g0 g → ce ≤ 0 ∧ sl ≤ 0 → lv_has ls 8 [(0, .ref (ρ 99)), (6, .int x6), (7, .int x7)] → (∀ (σ : CSt) (x6 : Int32) (g : Gh) (H : Heap) (locs : List Loc) (ce : Nat) (sl : Nat) (ls : Array Slot), K49 σ x6 = some q → WC D κ ρ (AC ρ g0 s.heap.size) s.heap g σ s H locs → sub g0 g → ce ≤ 0 ∧ sl ≤ 0 → lv_has ls 8 [(0, .ref (ρ 99)), (6, .int x6)] → W p l e ({ frames := 4, cells := 1, slots := 5, locals := 103 } : Room) s m args below meth c H locs ce sl (MQ below (QCq D κ ρ s.heap.size g0 q.2 q.1) args s 1 5 (AC ρ g0 s.heap.size)) (F0 m 49 ls [])) → W p l e ({ frames := 4, cells := 1, slots := 5, locals := 103 } : Room) s m args below meth c H locs ce sl (MQ below (QCq D κ ρ s.heap.size g0 q.2 q.1) args s 1 5 (AC ρ g0 s.heap.size)) (F0 m 28 ls []) := by
  have hx := C.1
  have hb := C.2.1
  have hts := C.2.2.2.2
  have hown := C.2.2.2.1
  have k_18 := hts (.fieldLink RX0 18 "PlanCabinet$Chooser" "codes" "[I") (by decide +kernel)
  have in_0 : ∀ w ∈ wsX00, w ∈ wsX0_cheapest := by decide +kernel
  intro n
  induction n with
  | zero =>
    intro σ x6 x7 g H locs ce sl ls h hw hg hc hl hK49
    rw [fH_cheapest_L28] at h
    cases h
  | succ n ih =>
    intro σ x6 x7 g H locs ce sl ls h hw hg hc hl hK49
    rw [fH_cheapest_L28] at h
    refine lv_iload hx hb dX0_cheapest_28 (lv_at hl 2 rfl) ?_
    refine lv_bipush (v := (16 : Int32)) hx hb dX0_cheapest_30 (by decide) ?_
    refine lv_icmp_ge (tgt := 49) hx hb dX0_cheapest_32 (by decide) (fun c_32 => ?_) (fun c_32 => ?_)
    · have h := zz_pos c_32 h
      exact hK49 _ _ _ _ _ _ _ _ h hw hg (by omega) (lv_sub hl [0, 1] rfl)
    · have h := zz_neg c_32 h
      refine lv_aload_n hx hb dX0_cheapest_35 rfl (lv_at hl 0 rfl) ?_
      refine cG_4 C in_0 hw.1 k_18 dX0_cheapest_36 ?_
      refine lv_iload hx hb dX0_cheapest_39 (lv_at hl 2 rfl) ?_
      refine lv_iconst (v := (-1 : Int32)) hx hb dX0_cheapest_41 (by decide) ?_
      obtain ⟨b_42, h⟩ := chk_of h
      refine cS_4 C hw b_42 dX0_cheapest_42 (fun H locs hw => ?_)
      refine lv_iinc (v := (x7 + 1)) (lv' := [(7, .int (x7 + 1)), (0, .ref (ρ 99)), (6, .int x6)]) hx hb dX0_cheapest_43 hl (k := 2) rfl rfl (by decide) rfl (fun ls hl => ?_)
      refine lv_goto (tgt := 28) hx hb dX0_cheapest_46 (by decide) ?_
      exact ih _ _ _ _ _ _ _ _ _ h hw hg (by omega) (lv_sub hl [1, 2, 0] rfl) hK49
set_option maxRecDepth 100000 in
set_option maxHeartbeats 4000000 in
theorem wH_cheapest_L52 {p : Program} {l : Launch} {e : Env} {s : State} {m : MethodId} {args : Array Value} {below : List Frame} {meth : Method} {c : Code} {D : va_G} {κ : Nat → ClassId} {ρ : Nat → Nat} {g0 : Gh} (C : CallFix p m c cX0_cheapest 8 s args wsX0_cheapest RX0) (hr : meth.sig.returnType = (some (.object "PlanCabinet$Plan"))) (hlk : meth.locks = false) {N : Nat} {q : (Option Pl) × CSt} {K82 : CSt → Int32 → Option ((Option Pl) × CSt)} : ∀ (n : Nat) (σ : CSt) (x6 : Int32) (x7 : Int32) (g : Gh) (H : Heap) (locs : List Loc) (ce : Nat) (sl : Nat) (ls : Array Slot), fH_cheapest_L52 N K82 n σ x6 x7 = some q → WC D κ ρ (AC ρ g0 s.heap.size) s.heap g σ s H locs → sub g0 g → ce ≤ 0 ∧ sl ≤ 0 → lv_has ls 8 [(0, .ref (ρ 99)), (6, .int x6), (7, .int x7)] → (∀ (σ : CSt) (x6 : Int32) (g : Gh) (H : Heap) (locs : List Loc) (ce : Nat) (sl : Nat) (ls : Array Slot), K82 σ x6 = some q → WC D κ ρ (AC ρ g0 s.heap.size) s.heap g σ s H locs → sub g0 g → ce ≤ 0 ∧ sl ≤ 0 → lv_has ls 8 [(0, .ref (ρ 99)), (6, .int x6)] → W p l e ({ frames := 4, cells := 1, slots := 5, locals := 103 } : Room) s m args below meth c H locs ce sl (MQ below (QCq D κ ρ s.heap.size g0 q.2 q.1) args s 1 5 (AC ρ g0 s.heap.size)) (F0 m 82 ls [])) → W p l e ({ frames := 4, cells := 1, slots := 5, locals := 103 } : Room) s m args below meth c H locs ce sl (MQ below (QCq D κ ρ s.heap.size g0 q.2 q.1) args s 1 5 (AC ρ g0 s.heap.size)) (F0 m 52 ls []) := by
  have hx := C.1
  have hb := C.2.1
  have hts := C.2.2.2.2
  have hown := C.2.2.2.1
  have k_29 := hts (.fieldLink RX0 29 "PlanCabinet$Chooser" "question" "LPlanCabinet$Question;") (by decide +kernel)
  have k_54 := hts (.fieldLink RX0 54 "PlanCabinet$Question" "tableCount" "I") (by decide +kernel)
  have in_0 : ∀ w ∈ wsX00, w ∈ wsX0_cheapest := by decide +kernel
  have in_3 : ∀ w ∈ wsX30, w ∈ wsX0_cheapest := by decide +kernel
  intro n
  induction n with
  | zero =>
    intro σ x6 x7 g H locs ce sl ls h hw hg hc hl hK82
    rw [fH_cheapest_L52] at h
    cases h
  | succ n ih =>
    intro σ x6 x7 g H locs ce sl ls h hw hg hc hl hK82
    rw [fH_cheapest_L52] at h
    refine lv_iload hx hb dX0_cheapest_52 (lv_at hl 2 rfl) ?_
    refine lv_aload_n hx hb dX0_cheapest_54 rfl (lv_at hl 0 rfl) ?_
    refine cG_0 C in_0 hw.1 k_29 dX0_cheapest_55 ?_
    refine cG_300 C in_3 hw.1 k_54 dX0_cheapest_58 ?_
    refine lv_icmp_ge (tgt := 82) hx hb dX0_cheapest_61 (by decide) (fun c_61 => ?_) (fun c_61 => ?_)
    · have h := zz_pos c_61 h
      exact hK82 _ _ _ _ _ _ _ _ h hw hg (by omega) (lv_sub hl [0, 1] rfl)
    · have h := zz_neg c_61 h
      refine lv_iload hx hb dX0_cheapest_64 (lv_at hl 2 rfl) ?_
      refine lv_iconst (v := (4 : Int32)) hx hb dX0_cheapest_66 (by decide) ?_
      refine lv_icmp_ge (tgt := 82) hx hb dX0_cheapest_67 (by decide) (fun c_67 => ?_) (fun c_67 => ?_)
      · have h := zz_pos c_67 h
        exact hK82 _ _ _ _ _ _ _ _ h hw hg (by omega) (lv_sub hl [0, 1] rfl)
      · have h := zz_neg c_67 h
        refine lv_aload_n hx hb dX0_cheapest_70 rfl (lv_at hl 0 rfl) ?_
        refine lv_iload hx hb dX0_cheapest_71 (lv_at hl 2 rfl) ?_
        obtain ⟨r_73, e_73, h⟩ := bnd_of h
        refine callC (va_runV (As := [.int x7]) C (cH_offerRead e_73) (cwV 1 hts gX0_cheapest_X0_offerRead rfl rfl rfl (by decide +kernel) ⟨by decide, by decide⟩) (preM (recv_99 hw.1) hw) rfl rfl hl.1 rfl (lv_room (Nat.le_of_ble_eq_true rfl)) dX0_cheapest_73 ⟨by show _ ≤ 1; omega, by show _ ≤ 5; omega⟩) hw (fun _ h => Or.inr h) (fun g H locs hs hw => ?_)
        have hg := sub_tr hg hs
        refine lv_iinc (v := (x7 + 1)) (lv' := [(7, .int (x7 + 1)), (0, .ref (ρ 99)), (6, .int x6)]) hx hb dX0_cheapest_76 hl (k := 2) rfl rfl (by decide) rfl (fun ls hl => ?_)
        refine lv_goto (tgt := 52) hx hb dX0_cheapest_79 (by decide) ?_
        exact ih _ _ _ _ _ _ _ _ _ h hw hg (by omega) (lv_sub hl [1, 2, 0] rfl) hK82
set_option maxRecDepth 100000 in
set_option maxHeartbeats 4000000 in
theorem wH_cheapest_L85 {p : Program} {l : Launch} {e : Env} {s : State} {m : MethodId} {args : Array Value} {below : List Frame} {meth : Method} {c : Code} {D : va_G} {κ : Nat → ClassId} {ρ : Nat → Nat} {g0 : Gh} (C : CallFix p m c cX0_cheapest 8 s args wsX0_cheapest RX0) (hr : meth.sig.returnType = (some (.object "PlanCabinet$Plan"))) (hlk : meth.locks = false) {N : Nat} {q : (Option Pl) × CSt} {K111 : CSt → Int32 → Option ((Option Pl) × CSt)} : ∀ (n : Nat) (σ : CSt) (x6 : Int32) (x7 : Int32) (g : Gh) (H : Heap) (locs : List Loc) (ce : Nat) (sl : Nat) (ls : Array Slot), fH_cheapest_L85 N K111 n σ x6 x7 = some q → WC D κ ρ (AC ρ g0 s.heap.size) s.heap g σ s H locs → sub g0 g → ce ≤ 0 ∧ sl ≤ 0 → lv_has ls 8 [(0, .ref (ρ 99)), (6, .int x6), (7, .int x7)] → (∀ (σ : CSt) (x6 : Int32) (g : Gh) (H : Heap) (locs : List Loc) (ce : Nat) (sl : Nat) (ls : Array Slot), K111 σ x6 = some q → WC D κ ρ (AC ρ g0 s.heap.size) s.heap g σ s H locs → sub g0 g → ce ≤ 0 ∧ sl ≤ 0 → lv_has ls 8 [(0, .ref (ρ 99)), (6, .int x6)] → W p l e ({ frames := 4, cells := 1, slots := 5, locals := 103 } : Room) s m args below meth c H locs ce sl (MQ below (QCq D κ ρ s.heap.size g0 q.2 q.1) args s 1 5 (AC ρ g0 s.heap.size)) (F0 m 111 ls [])) → W p l e ({ frames := 4, cells := 1, slots := 5, locals := 103 } : Room) s m args below meth c H locs ce sl (MQ below (QCq D κ ρ s.heap.size g0 q.2 q.1) args s 1 5 (AC ρ g0 s.heap.size)) (F0 m 85 ls []) := by
  have hx := C.1
  have hb := C.2.1
  have hts := C.2.2.2.2
  have hown := C.2.2.2.1
  intro n
  induction n with
  | zero =>
    intro σ x6 x7 g H locs ce sl ls h hw hg hc hl hK111
    rw [fH_cheapest_L85] at h
    cases h
  | succ n ih =>
    intro σ x6 x7 g H locs ce sl ls h hw hg hc hl hK111
    rw [fH_cheapest_L85] at h
    refine lv_iload hx hb dX0_cheapest_85 (lv_at hl 2 rfl) ?_
    refine lv_iload hx hb dX0_cheapest_87 (lv_at hl 1 rfl) ?_
    refine lv_icmp_gt (tgt := 111) hx hb dX0_cheapest_89 (by decide) (fun c_89 => ?_) (fun c_89 => ?_)
    · have h := zz_pos c_89 h
      exact hK111 _ _ _ _ _ _ _ _ h hw hg (by omega) (lv_sub hl [0, 1] rfl)
    · have h := zz_neg c_89 h
      refine lv_iload hx hb dX0_cheapest_92 (lv_at hl 2 rfl) ?_
      refine lv_bipush (v := (16 : Int32)) hx hb dX0_cheapest_94 (by decide) ?_
      refine lv_icmp_ge (tgt := 111) hx hb dX0_cheapest_96 (by decide) (fun c_96 => ?_) (fun c_96 => ?_)
      · have h := zz_pos c_96 h
        exact hK111 _ _ _ _ _ _ _ _ h hw hg (by omega) (lv_sub hl [0, 1] rfl)
      · have h := zz_neg c_96 h
        refine lv_aload_n hx hb dX0_cheapest_99 rfl (lv_at hl 0 rfl) ?_
        refine lv_iload hx hb dX0_cheapest_100 (lv_at hl 2 rfl) ?_
        obtain ⟨r_102, e_102, h⟩ := bnd_of h
        refine callC (va_runV (As := [.int x7]) C (cH_offerJoins e_102) (cwV 1 hts gX0_cheapest_X0_offerJoins rfl rfl rfl (by decide +kernel) ⟨by decide, by decide⟩) (preM (recv_99 hw.1) hw) rfl rfl hl.1 rfl (lv_room (Nat.le_of_ble_eq_true rfl)) dX0_cheapest_102 ⟨by show _ ≤ 1; omega, by show _ ≤ 5; omega⟩) hw (fun _ h => Or.inr h) (fun g H locs hs hw => ?_)
        have hg := sub_tr hg hs
        refine lv_iinc (v := (x7 + 1)) (lv' := [(7, .int (x7 + 1)), (0, .ref (ρ 99)), (6, .int x6)]) hx hb dX0_cheapest_105 hl (k := 2) rfl rfl (by decide) rfl (fun ls hl => ?_)
        refine lv_goto (tgt := 85) hx hb dX0_cheapest_108 (by decide) ?_
        exact ih _ _ _ _ _ _ _ _ _ h hw hg (by omega) (lv_sub hl [1, 2, 0] rfl) hK111
set_option maxRecDepth 100000 in
set_option maxHeartbeats 4000000 in
theorem wH_cheapest_J111 {p : Program} {l : Launch} {e : Env} {s : State} {m : MethodId} {args : Array Value} {below : List Frame} {meth : Method} {c : Code} {D : va_G} {κ : Nat → ClassId} {ρ : Nat → Nat} {g0 : Gh} (C : CallFix p m c cX0_cheapest 8 s args wsX0_cheapest RX0) (hr : meth.sig.returnType = (some (.object "PlanCabinet$Plan"))) (hlk : meth.locks = false) {N : Nat} {q : (Option Pl) × CSt} : ∀ (σ : CSt) (x6 : Int32) (g : Gh) (H : Heap) (locs : List Loc) (ce : Nat) (sl : Nat) (ls : Array Slot), fH_cheapest_J111 N σ x6 = some q → WC D κ ρ (AC ρ g0 s.heap.size) s.heap g σ s H locs → sub g0 g → ce ≤ 0 ∧ sl ≤ 0 → lv_has ls 8 [(0, .ref (ρ 99)), (6, .int x6)] → W p l e ({ frames := 4, cells := 1, slots := 5, locals := 103 } : Room) s m args below meth c H locs ce sl (MQ below (QCq D κ ρ s.heap.size g0 q.2 q.1) args s 1 5 (AC ρ g0 s.heap.size)) (F0 m 111 ls []) := by
  have hx := C.1
  have hb := C.2.1
  have hts := C.2.2.2.2
  have hown := C.2.2.2.1
  have k_9 := hts (.fieldLink RX0 9 "PlanCabinet$Chooser" "a" "[J") (by decide +kernel)
  have k_15 := hts (.fieldLink RX0 15 "PlanCabinet$Chooser" "b" "[J") (by decide +kernel)
  have k_18 := hts (.fieldLink RX0 18 "PlanCabinet$Chooser" "codes" "[I") (by decide +kernel)
  have k_22 := hts (.fieldLink RX0 22 "PlanCabinet$Chooser" "inOrder" "[Z") (by decide +kernel)
  have k_64 := hts (.classLink RX0 64 RX1) (by decide +kernel)
  have in_0 : ∀ w ∈ wsX00, w ∈ wsX0_cheapest := by decide +kernel
  have in_1 : ∀ w ∈ wsX10, w ∈ wsX0_cheapest := by decide +kernel
  intro σ x6 g H locs ce sl ls h hw hg hc hl
  unfold fH_cheapest_J111 at h
  refine lv_iload hx hb dX0_cheapest_111 (lv_at hl 1 rfl) ?_
  refine lv_if_le (tgt := 134) hx hb dX0_cheapest_113 (by decide) (fun c_113 => ?_) (fun c_113 => ?_)
  · have h := zz_pos c_113 h
    refine lv_null hx hb dX0_cheapest_134 ?_
    refine W.widen (k := 1) (n := 5) (by omega) (by omega) ?_
    exact W.aret (v := va_rf none) hx hb hr (Or.inl ⟨_, rfl⟩) (va_rf_or _) (fun t ht hW => QCq.of (z := none) (by rw [← some_of h]; exact trivial) (by rw [← some_of h]; exact hw) hg ht hW) hw.2.2.2.2 dX0_cheapest_135
  · have h := zz_neg c_113 h
    refine lv_iload hx hb dX0_cheapest_116 (lv_at hl 1 rfl) ?_
    refine lv_bipush (v := (16 : Int32)) hx hb dX0_cheapest_118 (by decide) ?_
    refine lv_icmp_ge (tgt := 134) hx hb dX0_cheapest_120 (by decide) (fun c_120 => ?_) (fun c_120 => ?_)
    · have h := zz_pos c_120 h
      refine lv_null hx hb dX0_cheapest_134 ?_
      refine W.widen (k := 1) (n := 5) (by omega) (by omega) ?_
      exact W.aret (v := va_rf none) hx hb hr (Or.inl ⟨_, rfl⟩) (va_rf_or _) (fun t ht hW => QCq.of (z := none) (by rw [← some_of h]; exact trivial) (by rw [← some_of h]; exact hw) hg ht hW) hw.2.2.2.2 dX0_cheapest_135
    · have h := zz_neg c_120 h
      refine lv_aload_n hx hb dX0_cheapest_123 rfl (lv_at hl 0 rfl) ?_
      refine cG_4 C in_0 hw.1 k_18 dX0_cheapest_124 ?_
      refine lv_iload hx hb dX0_cheapest_127 (lv_at hl 1 rfl) ?_
      obtain ⟨b_129, h⟩ := chk_of h
      refine cL_4 C hw.1 b_129 dX0_cheapest_129 ?_
      refine lv_iconst (v := (-1 : Int32)) hx hb dX0_cheapest_130 (by decide) ?_
      refine lv_icmp_ne (tgt := 136) hx hb dX0_cheapest_131 (by decide) (fun c_131 => ?_) (fun c_131 => ?_)
      · have h := zz_neg c_131 h
        refine cNew C in_1 hw (fun _ h => Or.inr h) k_64 (hts (.instantiable RX1 5) (by decide +kernel)) (hts (.initialized RX1) (by decide +kernel)) (by show _ ≤ 1; omega) (by show _ ≤ 5; omega) dX0_cheapest_136 (fun u_136 H hw hn => ?_)
        obtain ⟨ce, ec_136⟩ : ∃ x, x = ce + 1 := ⟨_, rfl⟩
        obtain ⟨sl, es_136⟩ : ∃ x, x = sl + 5 := ⟨_, rfl⟩
        rw [← ec_136, ← es_136]
        refine lv_dup hx hb dX0_cheapest_139 rfl ?_
        refine lv_iload hx hb dX0_cheapest_140 (lv_at hl 1 rfl) ?_
        refine lv_aload_n hx hb dX0_cheapest_142 rfl (lv_at hl 0 rfl) ?_
        refine cG_4 C in_0 hw.1 k_18 dX0_cheapest_143 ?_
        refine lv_iload hx hb dX0_cheapest_146 (lv_at hl 1 rfl) ?_
        obtain ⟨b_148, h⟩ := chk_of h
        refine cL_4 C hw.1 b_148 dX0_cheapest_148 ?_
        refine lv_aload_n hx hb dX0_cheapest_149 rfl (lv_at hl 0 rfl) ?_
        refine cG_2 C in_0 hw.1 k_9 dX0_cheapest_150 ?_
        refine lv_iload hx hb dX0_cheapest_153 (lv_at hl 1 rfl) ?_
        obtain ⟨b_155, h⟩ := chk_of h
        refine cL_2 C hw.1 b_155 dX0_cheapest_155 ?_
        refine lv_aload_n hx hb dX0_cheapest_156 rfl (lv_at hl 0 rfl) ?_
        refine cG_3 C in_0 hw.1 k_15 dX0_cheapest_157 ?_
        refine lv_iload hx hb dX0_cheapest_160 (lv_at hl 1 rfl) ?_
        obtain ⟨b_162, h⟩ := chk_of h
        refine cL_3 C hw.1 b_162 dX0_cheapest_162 ?_
        refine lv_aload_n hx hb dX0_cheapest_163 rfl (lv_at hl 0 rfl) ?_
        refine cG_5 C in_0 hw.1 k_22 dX0_cheapest_164 ?_
        refine lv_iload hx hb dX0_cheapest_167 (lv_at hl 1 rfl) ?_
        obtain ⟨b_169, h⟩ := chk_of h
        refine cL_5 C hw.1 b_169 dX0_cheapest_169 ?_
        obtain ⟨b_170, h⟩ := bt_of h
        refine cInit (x := (x6, (σ.2.2.1 4 x6.toNatClampNeg), (σ.2.2.2.1 2 x6.toNatClampNeg), (σ.2.2.2.1 3 x6.toNatClampNeg), (σ.2.2.1 5 x6.toNatClampNeg))) (va_runI (As := [.int x6, .int (σ.2.2.1 4 x6.toNatClampNeg), .long (σ.2.2.2.1 2 x6.toNatClampNeg), .long (σ.2.2.2.1 3 x6.toNatClampNeg), .int (σ.2.2.1 5 x6.toNatClampNeg)]) C (cP_init b_170) (cwI 5 hts gX0_cheapest_X1_init rfl rfl rfl (hts (.initialized RX1) (by decide +kernel)) (hts (.methodLink RX0 66 yX1_init) (by decide +kernel)) (hts (.instanceMethod yX1_init) (by decide +kernel)) rfl (by decide +kernel) ⟨by decide, by decide⟩) (preN hn.1 hw) rfl rfl hl.1 rfl (lv_room (Nat.le_of_ble_eq_true rfl)) dX0_cheapest_170 ⟨by show _ ≤ 1; omega, by show _ ≤ 5; omega⟩) hw hn (fun _ h => Or.inr h) (fun g H locs eg hs hq_170 hw => ?_)
        have hg := sub_tr hg hs
        refine W.widen (k := 1) (n := 5) (by omega) (by omega) ?_
        exact W.aret (v := va_rf (some u_136)) hx hb hr (Or.inl ⟨_, rfl⟩) (va_rf_or _) (fun t ht hW => QCq.of (z := (some u_136)) (by rw [← some_of h]; exact (pr_in hq_170)) (by rw [← some_of h]; exact hw) hg ht hW) hw.2.2.2.2 dX0_cheapest_173
      · have h := zz_pos c_131 h
        refine lv_null hx hb dX0_cheapest_134 ?_
        refine W.widen (k := 1) (n := 5) (by omega) (by omega) ?_
        exact W.aret (v := va_rf none) hx hb hr (Or.inl ⟨_, rfl⟩) (va_rf_or _) (fun t ht hW => QCq.of (z := none) (by rw [← some_of h]; exact trivial) (by rw [← some_of h]; exact hw) hg ht hW) hw.2.2.2.2 dX0_cheapest_135
set_option maxRecDepth 100000 in
set_option maxHeartbeats 4000000 in
theorem wH_cheapest_J82 {p : Program} {l : Launch} {e : Env} {s : State} {m : MethodId} {args : Array Value} {below : List Frame} {meth : Method} {c : Code} {D : va_G} {κ : Nat → ClassId} {ρ : Nat → Nat} {g0 : Gh} (C : CallFix p m c cX0_cheapest 8 s args wsX0_cheapest RX0) (hr : meth.sig.returnType = (some (.object "PlanCabinet$Plan"))) (hlk : meth.locks = false) {N : Nat} {q : (Option Pl) × CSt} : ∀ (σ : CSt) (x6 : Int32) (g : Gh) (H : Heap) (locs : List Loc) (ce : Nat) (sl : Nat) (ls : Array Slot), fH_cheapest_J82 N σ x6 = some q → WC D κ ρ (AC ρ g0 s.heap.size) s.heap g σ s H locs → sub g0 g → ce ≤ 0 ∧ sl ≤ 0 → lv_has ls 8 [(0, .ref (ρ 99)), (6, .int x6)] → W p l e ({ frames := 4, cells := 1, slots := 5, locals := 103 } : Room) s m args below meth c H locs ce sl (MQ below (QCq D κ ρ s.heap.size g0 q.2 q.1) args s 1 5 (AC ρ g0 s.heap.size)) (F0 m 82 ls []) := by
  have hx := C.1
  have hb := C.2.1
  have hts := C.2.2.2.2
  have hown := C.2.2.2.1
  intro σ x6 g H locs ce sl ls h hw hg hc hl
  unfold fH_cheapest_J82 at h
  refine lv_iconst (v := (1 : Int32)) hx hb dX0_cheapest_82 (by decide) ?_
  refine lv_istore (lv' := [(7, .int (1 : Int32)), (0, .ref (ρ 99)), (6, .int x6)]) hx hb dX0_cheapest_83 hl (by decide) rfl (fun ls hl => ?_)
  refine wH_cheapest_L85 C hr hlk  _ _ _ _ _ _ _ _ _ _ h hw hg (by omega) (lv_sub hl [1, 2, 0] rfl) ?_
  intro σ x6 g H locs ce sl ls h hw hg hc hl
  exact wH_cheapest_J111 C hr hlk  _ _ _ _ _ _ _ _ h hw hg (by omega) (lv_sub hl [0, 1] rfl)
set_option maxRecDepth 100000 in
set_option maxHeartbeats 4000000 in
theorem cH_cheapest {l : Launch} {D : va_G} {κ : Nat → ClassId} {ρ : Nat → Nat} {g0 : Gh} {sz : Nat} {N : Nat} {σ : CSt} {x1 : Int64} {x3 : Int64} {x5 : Int32} {q : (Option Pl) × CSt} (h : fH_cheapest N σ x1 x3 x5 = some q) : Met l yX0_cheapest wsX0_cheapest ({ frames := 4, cells := 1, slots := 5, locals := 103 } : Room) (va_Pc [.ref (ρ 99), .long x1, .long x3, .int x5] (PC D κ ρ sz g0 σ)) (QCq D κ ρ sz g0 q.2 q.1) 1 5 (AC ρ g0 sz) := by
  refine cMetM (Qc := fun z => QCq D κ ρ z g0 q.2 q.1) (ret := (some (.object "PlanCabinet$Plan"))) (by decide) rfl rfl (Nat.le_of_ble_eq_true rfl) ?_
  intro p e s m below meth c ls C hr hlk hw hl
  obtain ⟨g, eg⟩ : ∃ x, x = g0 := ⟨_, rfl⟩
  have hw : WC D κ ρ (AC ρ g0 s.heap.size) s.heap g σ s s.heap [] := by rw [eg]; exact hw
  have hg : sub g0 g := by rw [eg]; exact sub_rf g0
  refine W.widen (k := 0) (n := 0) (Nat.le_refl _) (Nat.le_refl _) ?_
  obtain ⟨ce, ece⟩ : ∃ x : Nat, x = 0 := ⟨_, rfl⟩
  obtain ⟨sl, esl⟩ : ∃ x : Nat, x = 0 := ⟨_, rfl⟩
  refine W.widen (k := ce) (n := sl) (Nat.zero_le _) (Nat.zero_le _) ?_
  have hl : lv_has ls 8 [(0, .ref (ρ 99)), (1, .long x1), (3, .long x3), (5, .int x5)] := hl
  unfold fH_cheapest at h
  have hx := C.1
  have hb := C.2.1
  have hts := C.2.2.2.2
  have hown := C.2.2.2.1
  have k_29 := hts (.fieldLink RX0 29 "PlanCabinet$Chooser" "question" "LPlanCabinet$Question;") (by decide +kernel)
  have k_37 := hts (.fieldLink RX0 37 "PlanCabinet$Chooser" "above" "J") (by decide +kernel)
  have k_41 := hts (.fieldLink RX0 41 "PlanCabinet$Chooser" "below" "J") (by decide +kernel)
  have k_44 := hts (.fieldLink RX0 44 "PlanCabinet$Chooser" "slope" "I") (by decide +kernel)
  have in_0 : ∀ w ∈ wsX00, w ∈ wsX0_cheapest := by decide +kernel
  refine lv_aload_n hx hb dX0_cheapest_0 rfl (lv_at hl 0 rfl) ?_
  refine lv_lload_n hx hb dX0_cheapest_1 rfl (lv_at hl 1 rfl) ?_
  refine cPf_7 C in_0 hw k_37 dX0_cheapest_2 (fun H locs hw => ?_)
  refine lv_aload_n hx hb dX0_cheapest_5 rfl (lv_at hl 0 rfl) ?_
  refine lv_lload_n hx hb dX0_cheapest_6 rfl (lv_at hl 2 rfl) ?_
  refine cPf_8 C in_0 hw k_41 dX0_cheapest_7 (fun H locs hw => ?_)
  refine lv_aload_n hx hb dX0_cheapest_10 rfl (lv_at hl 0 rfl) ?_
  refine lv_iload hx hb dX0_cheapest_11 (lv_at hl 3 rfl) ?_
  refine cPf_9 C in_0 hw k_44 dX0_cheapest_13 (fun H locs hw => ?_)
  refine lv_aload_n hx hb dX0_cheapest_16 rfl (lv_at hl 0 rfl) ?_
  refine cG_0 C in_0 hw.1 k_29 dX0_cheapest_17 ?_
  obtain ⟨r_20, e_20, h⟩ := bnd_of h
  refine callP (W.runV (As := []) C (cQ_allTables e_20) (cwV 0 hts gX0_cheapest_X3_allTables rfl rfl rfl (by decide +kernel) ⟨by decide, by decide⟩) (preR (recv_399 hw.1) hw.1) rfl rfl hl.1 rfl (lv_room (Nat.le_of_ble_eq_true rfl)) dX0_cheapest_20 ⟨by show _ ≤ 1; omega, by show _ ≤ 5; omega⟩) ?_
  refine lv_istore (lv' := [(6, .int r_20), (0, .ref (ρ 99)), (1, .long x1), (3, .long x3), (5, .int x5)]) hx hb dX0_cheapest_23 hl (by decide) rfl (fun ls hl => ?_)
  refine lv_iconst (v := (0 : Int32)) hx hb dX0_cheapest_25 (by decide) ?_
  refine lv_istore (lv' := [(7, .int (0 : Int32)), (6, .int r_20), (0, .ref (ρ 99)), (1, .long x1), (3, .long x3), (5, .int x5)]) hx hb dX0_cheapest_26 hl (by decide) rfl (fun ls hl => ?_)
  refine wH_cheapest_L28 C hr hlk  _ _ _ _ _ _ _ _ _ _ h hw hg (by omega) (lv_sub hl [2, 1, 0] rfl) ?_
  intro σ x6 g H locs ce sl ls h hw hg hc hl
  refine lv_iconst (v := (0 : Int32)) hx hb dX0_cheapest_49 (by decide) ?_
  refine lv_istore (lv' := [(7, .int (0 : Int32)), (0, .ref (ρ 99)), (6, .int x6)]) hx hb dX0_cheapest_50 hl (by decide) rfl (fun ls hl => ?_)
  refine wH_cheapest_L52 C hr hlk  _ _ _ _ _ _ _ _ _ _ h hw hg (by omega) (lv_sub hl [1, 2, 0] rfl) ?_
  intro σ x6 g H locs ce sl ls h hw hg hc hl
  exact wH_cheapest_J82 C hr hlk  _ _ _ _ _ _ _ _ h hw hg (by omega) (lv_sub hl [0, 1] rfl)
def fH_wholePlans_L42 (N : Nat) (K104 : CSt → Int32 → Int32 → Option (Int32 × CSt)) : Nat → CSt → Int32 → Int32 → Int32 → Option (Int32 × CSt)
  | 0, _, _, _, _ => none
  | n + 1, σ, x1, x2, x3 => (if x2 ≤ x3 then K104 σ x1 x2 else (if (x3 &&& x2) = x3 then (fQ_leastBetween N σ x3 (x2 ^^^ x3)).bind fun r_66 => (if r_66 = (-1 : Int32) then fH_wholePlans_L42 N K104 n σ x1 x2 (x3 + 1) else chk x2 16 (chk x3 16 (chk (x2 ^^^ x3) 16 (chk x2 16 (fH_wholePlans_L42 N K104 n (cA σ 6 x2.toNatClampNeg ((σ.2.2.1 6 x2.toNatClampNeg) + (((3 : Int32) * (σ.2.2.1 6 x3.toNatClampNeg)) * (σ.2.2.1 6 (x2 ^^^ x3).toNatClampNeg)))) x1 x2 (x3 + 1)))))) else fH_wholePlans_L42 N K104 n σ x1 x2 (x3 + 1)))
def fH_wholePlans_J39 (N : Nat) (K10 : CSt → Int32 → Int32 → Option (Int32 × CSt)) (σ : CSt) (x1 : Int32) (x2 : Int32) (y1 : Int32) (y2 : Int32) : Option (Int32 × CSt) := chk y1 16 (fH_wholePlans_L42 N (fun (σ : CSt) (x1 : Int32) (x2 : Int32) => K10 σ x1 (x2 + 1)) N (cA σ 6 y1.toNatClampNeg y2) x1 x2 (1 : Int32))
def fH_wholePlans_L10 (N : Nat) (K110 : CSt → Int32 → Option (Int32 × CSt)) : Nat → CSt → Int32 → Int32 → Option (Int32 × CSt)
  | 0, _, _, _ => none
  | n + 1, σ, x1, x2 => (if x1 < x2 then K110 σ x1 else (if (16 : Int32) ≤ x2 then K110 σ x1 else (fJ_bitCount_0f7a4 N x2).bind fun r_27 => (if r_27 = (1 : Int32) then fH_wholePlans_J39 N (fun (σ : CSt) (x1 : Int32) (x2 : Int32) => fH_wholePlans_L10 N K110 n σ x1 x2) σ x1 x2 x2 (1 : Int32) else fH_wholePlans_J39 N (fun (σ : CSt) (x1 : Int32) (x2 : Int32) => fH_wholePlans_L10 N K110 n σ x1 x2) σ x1 x2 x2 (0 : Int32))))
def fH_wholePlans_J110 (N : Nat) (σ : CSt) (x1 : Int32) : Option (Int32 × CSt) := (if x1 ≤ 0 then some ((0 : Int32), σ) else (if x1 < (16 : Int32) then chk x1 16 (some ((σ.2.2.1 6 x1.toNatClampNeg), σ)) else some ((0 : Int32), σ)))
def fH_wholePlans (N : Nat) (σ : CSt) : Option (Int32 × CSt) := (fQ_allTables N σ).bind fun r_4 => fH_wholePlans_L10 N (fun (σ : CSt) (x1 : Int32) => fH_wholePlans_J110 N σ x1) N σ r_4 (1 : Int32)
set_option maxRecDepth 100000 in
set_option maxHeartbeats 4000000 in
theorem wH_wholePlans_L42 {p : Program} {l : Launch} {e : Env} {s : State} {m : MethodId} {args : Array Value} {below : List Frame} {meth : Method} {c : Code} {D : va_G} {κ : Nat → ClassId} {ρ : Nat → Nat} {g0 : Gh} (C : CallFix p m c cX0_wholePlans 5 s args wsX0_wholePlans RX0) (hr : meth.sig.returnType = (some .int)) (hlk : meth.locks = false) {N : Nat} {q : Int32 × CSt} {K104 : CSt → Int32 → Int32 → Option (Int32 × CSt)} : ∀ (n : Nat) (σ : CSt) (x1 : Int32) (x2 : Int32) (x3 : Int32) (g : Gh) (H : Heap) (locs : List Loc) (ls : Array Slot), fH_wholePlans_L42 N K104 n σ x1 x2 x3 = some q → WC D κ ρ (AC ρ g0 s.heap.size) s.heap g σ s H locs → sub g0 g → lv_has ls 5 [(0, .ref (ρ 99)), (1, .int x1), (2, .int x2), (3, .int x3)] → (∀ (σ : CSt) (x1 : Int32) (x2 : Int32) (g : Gh) (H : Heap) (locs : List Loc) (ls : Array Slot), K104 σ x1 x2 = some q → WC D κ ρ (AC ρ g0 s.heap.size) s.heap g σ s H locs → sub g0 g → lv_has ls 5 [(0, .ref (ρ 99)), (1, .int x1), (2, .int x2)] → W p l e ({ frames := 1, cells := 0, slots := 0, locals := 23 } : Room) s m args below meth c H locs 0 0 (MQ below (QC D κ ρ s.heap.size g0 q.2 (some (.int q.1))) args s 0 0 (AC ρ g0 s.heap.size)) (F0 m 104 ls [])) → W p l e ({ frames := 1, cells := 0, slots := 0, locals := 23 } : Room) s m args below meth c H locs 0 0 (MQ below (QC D κ ρ s.heap.size g0 q.2 (some (.int q.1))) args s 0 0 (AC ρ g0 s.heap.size)) (F0 m 42 ls []) := by
  have hx := C.1
  have hb := C.2.1
  have hts := C.2.2.2.2
  have hown := C.2.2.2.1
  have k_26 := hts (.fieldLink RX0 26 "PlanCabinet$Chooser" "ways" "[I") (by decide +kernel)
  have k_29 := hts (.fieldLink RX0 29 "PlanCabinet$Chooser" "question" "LPlanCabinet$Question;") (by decide +kernel)
  have in_0 : ∀ w ∈ wsX00, w ∈ wsX0_wholePlans := by decide +kernel
  intro n
  induction n with
  | zero =>
    intro σ x1 x2 x3 g H locs ls h hw hg hl hK104
    rw [fH_wholePlans_L42] at h
    cases h
  | succ n ih =>
    intro σ x1 x2 x3 g H locs ls h hw hg hl hK104
    rw [fH_wholePlans_L42] at h
    refine lv_iload_n hx hb dX0_wholePlans_42 rfl (lv_at hl 3 rfl) ?_
    refine lv_iload_n hx hb dX0_wholePlans_43 rfl (lv_at hl 2 rfl) ?_
    refine lv_icmp_ge (tgt := 104) hx hb dX0_wholePlans_44 (by decide) (fun c_44 => ?_) (fun c_44 => ?_)
    · have h := zz_pos c_44 h
      exact hK104 _ _ _ _ _ _ _ h hw hg (lv_sub hl [0, 1, 2] rfl)
    · have h := zz_neg c_44 h
      refine lv_iload_n hx hb dX0_wholePlans_47 rfl (lv_at hl 2 rfl) ?_
      refine lv_iload_n hx hb dX0_wholePlans_48 rfl (lv_at hl 3 rfl) ?_
      refine lv_ixor hx hb dX0_wholePlans_49 ?_
      refine lv_istore (lv' := [(4, .int (x2 ^^^ x3)), (0, .ref (ρ 99)), (1, .int x1), (2, .int x2), (3, .int x3)]) hx hb dX0_wholePlans_50 hl (by decide) rfl (fun ls hl => ?_)
      refine lv_iload_n hx hb dX0_wholePlans_52 rfl (lv_at hl 4 rfl) ?_
      refine lv_iload_n hx hb dX0_wholePlans_53 rfl (lv_at hl 3 rfl) ?_
      refine lv_iand hx hb dX0_wholePlans_54 ?_
      refine lv_iload_n hx hb dX0_wholePlans_55 rfl (lv_at hl 4 rfl) ?_
      refine lv_icmp_ne (tgt := 98) hx hb dX0_wholePlans_56 (by decide) (fun c_56 => ?_) (fun c_56 => ?_)
      · have h := zz_neg c_56 h
        refine lv_iinc (v := (x3 + 1)) (lv' := [(3, .int (x3 + 1)), (4, .int (x2 ^^^ x3)), (0, .ref (ρ 99)), (1, .int x1), (2, .int x2)]) hx hb dX0_wholePlans_98 hl (k := 4) rfl rfl (by decide) rfl (fun ls hl => ?_)
        refine lv_goto (tgt := 42) hx hb dX0_wholePlans_101 (by decide) ?_
        exact ih _ _ _ _ _ _ _ _ h hw hg (lv_sub hl [2, 3, 4, 0] rfl) hK104
      · have h := zz_pos c_56 h
        refine lv_aload_n hx hb dX0_wholePlans_59 rfl (lv_at hl 1 rfl) ?_
        refine cG_0 C in_0 hw.1 k_29 dX0_wholePlans_60 ?_
        refine lv_iload_n hx hb dX0_wholePlans_63 rfl (lv_at hl 4 rfl) ?_
        refine lv_iload hx hb dX0_wholePlans_64 (lv_at hl 0 rfl) ?_
        obtain ⟨r_66, e_66, h⟩ := bnd_of h
        refine callP (W.runV (As := [.int x3, .int (x2 ^^^ x3)]) C (cQ_leastBetween e_66) (cwV 2 hts gX0_wholePlans_X3_leastBetween rfl rfl rfl (by decide +kernel) ⟨by decide, by decide⟩) (preR (recv_399 hw.1) hw.1) rfl rfl hl.1 rfl (lv_room (Nat.le_of_ble_eq_true rfl)) dX0_wholePlans_66 ⟨Nat.zero_le _, Nat.zero_le _⟩) ?_
        refine lv_iconst (v := (-1 : Int32)) hx hb dX0_wholePlans_69 (by decide) ?_
        refine lv_icmp_eq (tgt := 98) hx hb dX0_wholePlans_70 (by decide) (fun c_70 => ?_) (fun c_70 => ?_)
        · have h := zz_pos c_70 h
          refine lv_iinc (v := (x3 + 1)) (lv' := [(3, .int (x3 + 1)), (4, .int (x2 ^^^ x3)), (0, .ref (ρ 99)), (1, .int x1), (2, .int x2)]) hx hb dX0_wholePlans_98 hl (k := 4) rfl rfl (by decide) rfl (fun ls hl => ?_)
          refine lv_goto (tgt := 42) hx hb dX0_wholePlans_101 (by decide) ?_
          exact ih _ _ _ _ _ _ _ _ h hw hg (lv_sub hl [2, 3, 4, 0] rfl) hK104
        · have h := zz_neg c_70 h
          refine lv_aload_n hx hb dX0_wholePlans_73 rfl (lv_at hl 1 rfl) ?_
          refine cG_6 C in_0 hw.1 k_26 dX0_wholePlans_74 ?_
          refine lv_iload_n hx hb dX0_wholePlans_77 rfl (lv_at hl 3 rfl) ?_
          refine lv_dup2_11 hx hb dX0_wholePlans_78 rfl rfl ?_
          obtain ⟨b_79, h⟩ := chk_of h
          refine cL_6 C hw.1 b_79 dX0_wholePlans_79 ?_
          refine lv_iconst (v := (3 : Int32)) hx hb dX0_wholePlans_80 (by decide) ?_
          refine lv_aload_n hx hb dX0_wholePlans_81 rfl (lv_at hl 1 rfl) ?_
          refine cG_6 C in_0 hw.1 k_26 dX0_wholePlans_82 ?_
          refine lv_iload_n hx hb dX0_wholePlans_85 rfl (lv_at hl 4 rfl) ?_
          obtain ⟨b_86, h⟩ := chk_of h
          refine cL_6 C hw.1 b_86 dX0_wholePlans_86 ?_
          refine lv_imul hx hb dX0_wholePlans_87 ?_
          refine lv_aload_n hx hb dX0_wholePlans_88 rfl (lv_at hl 1 rfl) ?_
          refine cG_6 C in_0 hw.1 k_26 dX0_wholePlans_89 ?_
          refine lv_iload hx hb dX0_wholePlans_92 (lv_at hl 0 rfl) ?_
          obtain ⟨b_94, h⟩ := chk_of h
          refine cL_6 C hw.1 b_94 dX0_wholePlans_94 ?_
          refine lv_imul hx hb dX0_wholePlans_95 ?_
          refine lv_iadd hx hb dX0_wholePlans_96 ?_
          obtain ⟨b_97, h⟩ := chk_of h
          refine cS_6 C hw b_97 dX0_wholePlans_97 (fun H locs hw => ?_)
          refine lv_iinc (v := (x3 + 1)) (lv' := [(3, .int (x3 + 1)), (4, .int (x2 ^^^ x3)), (0, .ref (ρ 99)), (1, .int x1), (2, .int x2)]) hx hb dX0_wholePlans_98 hl (k := 4) rfl rfl (by decide) rfl (fun ls hl => ?_)
          refine lv_goto (tgt := 42) hx hb dX0_wholePlans_101 (by decide) ?_
          exact ih _ _ _ _ _ _ _ _ h hw hg (lv_sub hl [2, 3, 4, 0] rfl) hK104
set_option maxRecDepth 100000 in
set_option maxHeartbeats 4000000 in
theorem wH_wholePlans_J39 {p : Program} {l : Launch} {e : Env} {s : State} {m : MethodId} {args : Array Value} {below : List Frame} {meth : Method} {c : Code} {D : va_G} {κ : Nat → ClassId} {ρ : Nat → Nat} {g0 : Gh} (C : CallFix p m c cX0_wholePlans 5 s args wsX0_wholePlans RX0) (hr : meth.sig.returnType = (some .int)) (hlk : meth.locks = false) {N : Nat} {q : Int32 × CSt} {K10 : CSt → Int32 → Int32 → Option (Int32 × CSt)} : ∀ (σ : CSt) (x1 : Int32) (x2 : Int32) (y1 : Int32) (y2 : Int32) (g : Gh) (H : Heap) (locs : List Loc) (ls : Array Slot), fH_wholePlans_J39 N K10 σ x1 x2 y1 y2 = some q → WC D κ ρ (AC ρ g0 s.heap.size) s.heap g σ s H locs → sub g0 g → lv_has ls 5 [(0, .ref (ρ 99)), (1, .int x1), (2, .int x2)] → (∀ (σ : CSt) (x1 : Int32) (x2 : Int32) (g : Gh) (H : Heap) (locs : List Loc) (ls : Array Slot), K10 σ x1 x2 = some q → WC D κ ρ (AC ρ g0 s.heap.size) s.heap g σ s H locs → sub g0 g → lv_has ls 5 [(0, .ref (ρ 99)), (1, .int x1), (2, .int x2)] → W p l e ({ frames := 1, cells := 0, slots := 0, locals := 23 } : Room) s m args below meth c H locs 0 0 (MQ below (QC D κ ρ s.heap.size g0 q.2 (some (.int q.1))) args s 0 0 (AC ρ g0 s.heap.size)) (F0 m 10 ls [])) → W p l e ({ frames := 1, cells := 0, slots := 0, locals := 23 } : Room) s m args below meth c H locs 0 0 (MQ below (QC D κ ρ s.heap.size g0 q.2 (some (.int q.1))) args s 0 0 (AC ρ g0 s.heap.size)) (F0 m 39 ls [.int y2, .int y1, .ref (ρ 6)]) := by
  have hx := C.1
  have hb := C.2.1
  have hts := C.2.2.2.2
  have hown := C.2.2.2.1
  intro σ x1 x2 y1 y2 g H locs ls h hw hg hl hK10
  unfold fH_wholePlans_J39 at h
  obtain ⟨b_39, h⟩ := chk_of h
  refine cS_6 C hw b_39 dX0_wholePlans_39 (fun H locs hw => ?_)
  refine lv_iconst (v := (1 : Int32)) hx hb dX0_wholePlans_40 (by decide) ?_
  refine lv_istore_n (lv' := [(3, .int (1 : Int32)), (0, .ref (ρ 99)), (1, .int x1), (2, .int x2)]) hx hb dX0_wholePlans_41 rfl hl (by decide) rfl (fun ls hl => ?_)
  refine wH_wholePlans_L42 C hr hlk  _ _ _ _ _ _ _ _ _ h hw hg (lv_sub hl [1, 2, 3, 0] rfl) ?_
  intro σ x1 x2 g H locs ls h hw hg hl
  refine lv_iinc (v := (x2 + 1)) (lv' := [(2, .int (x2 + 1)), (0, .ref (ρ 99)), (1, .int x1)]) hx hb dX0_wholePlans_104 hl (k := 2) rfl rfl (by decide) rfl (fun ls hl => ?_)
  refine lv_goto (tgt := 10) hx hb dX0_wholePlans_107 (by decide) ?_
  exact hK10 _ _ _ _ _ _ _ h hw hg (lv_sub hl [1, 2, 0] rfl)
set_option maxRecDepth 100000 in
set_option maxHeartbeats 4000000 in
theorem wH_wholePlans_L10 {p : Program} {l : Launch} {e : Env} {s : State} {m : MethodId} {args : Array Value} {below : List Frame} {meth : Method} {c : Code} {D : va_G} {κ : Nat → ClassId} {ρ : Nat → Nat} {g0 : Gh} (C : CallFix p m c cX0_wholePlans 5 s args wsX0_wholePlans RX0) (hr : meth.sig.returnType = (some .int)) (hlk : meth.locks = false) {N : Nat} {q : Int32 × CSt} {K110 : CSt → Int32 → Option (Int32 × CSt)} : ∀ (n : Nat) (σ : CSt) (x1 : Int32) (x2 : Int32) (g : Gh) (H : Heap) (locs : List Loc) (ls : Array Slot), fH_wholePlans_L10 N K110 n σ x1 x2 = some q → WC D κ ρ (AC ρ g0 s.heap.size) s.heap g σ s H locs → sub g0 g → lv_has ls 5 [(0, .ref (ρ 99)), (1, .int x1), (2, .int x2)] → (∀ (σ : CSt) (x1 : Int32) (g : Gh) (H : Heap) (locs : List Loc) (ls : Array Slot), K110 σ x1 = some q → WC D κ ρ (AC ρ g0 s.heap.size) s.heap g σ s H locs → sub g0 g → lv_has ls 5 [(0, .ref (ρ 99)), (1, .int x1)] → W p l e ({ frames := 1, cells := 0, slots := 0, locals := 23 } : Room) s m args below meth c H locs 0 0 (MQ below (QC D κ ρ s.heap.size g0 q.2 (some (.int q.1))) args s 0 0 (AC ρ g0 s.heap.size)) (F0 m 110 ls [])) → W p l e ({ frames := 1, cells := 0, slots := 0, locals := 23 } : Room) s m args below meth c H locs 0 0 (MQ below (QC D κ ρ s.heap.size g0 q.2 (some (.int q.1))) args s 0 0 (AC ρ g0 s.heap.size)) (F0 m 10 ls []) := by
  have hx := C.1
  have hb := C.2.1
  have hts := C.2.2.2.2
  have hown := C.2.2.2.1
  have k_26 := hts (.fieldLink RX0 26 "PlanCabinet$Chooser" "ways" "[I") (by decide +kernel)
  have in_0 : ∀ w ∈ wsX00, w ∈ wsX0_wholePlans := by decide +kernel
  intro n
  induction n with
  | zero =>
    intro σ x1 x2 g H locs ls h hw hg hl hK110
    rw [fH_wholePlans_L10] at h
    cases h
  | succ n ih =>
    intro σ x1 x2 g H locs ls h hw hg hl hK110
    rw [fH_wholePlans_L10] at h
    refine lv_iload_n hx hb dX0_wholePlans_10 rfl (lv_at hl 2 rfl) ?_
    refine lv_iload_n hx hb dX0_wholePlans_11 rfl (lv_at hl 1 rfl) ?_
    refine lv_icmp_gt (tgt := 110) hx hb dX0_wholePlans_12 (by decide) (fun c_12 => ?_) (fun c_12 => ?_)
    · have h := zz_pos c_12 h
      exact hK110 _ _ _ _ _ _ h hw hg (lv_sub hl [0, 1] rfl)
    · have h := zz_neg c_12 h
      refine lv_iload_n hx hb dX0_wholePlans_15 rfl (lv_at hl 2 rfl) ?_
      refine lv_bipush (v := (16 : Int32)) hx hb dX0_wholePlans_16 (by decide) ?_
      refine lv_icmp_ge (tgt := 110) hx hb dX0_wholePlans_18 (by decide) (fun c_18 => ?_) (fun c_18 => ?_)
      · have h := zz_pos c_18 h
        exact hK110 _ _ _ _ _ _ h hw hg (lv_sub hl [0, 1] rfl)
      · have h := zz_neg c_18 h
        refine lv_aload_n hx hb dX0_wholePlans_21 rfl (lv_at hl 0 rfl) ?_
        refine cG_6 C in_0 hw.1 k_26 dX0_wholePlans_22 ?_
        refine lv_iload_n hx hb dX0_wholePlans_25 rfl (lv_at hl 2 rfl) ?_
        refine lv_iload_n hx hb dX0_wholePlans_26 rfl (lv_at hl 2 rfl) ?_
        obtain ⟨r_27, e_27, h⟩ := bnd_of h
        refine callP (W.runS (As := [.int x2]) C (cJ_bitCount_0f7a4 e_27) (va_cwS 1 hts gX0_wholePlans_J6_bitCount_0f7a4 rfl rfl rfl (by decide +kernel) ⟨by decide, by decide⟩) preT rfl rfl hl.1 rfl (lv_room (Nat.le_of_ble_eq_true rfl)) dX0_wholePlans_27 ⟨Nat.zero_le _, Nat.zero_le _⟩) ?_
        refine lv_iconst (v := (1 : Int32)) hx hb dX0_wholePlans_30 (by decide) ?_
        refine lv_icmp_ne (tgt := 38) hx hb dX0_wholePlans_31 (by decide) (fun c_31 => ?_) (fun c_31 => ?_)
        · have h := zz_neg c_31 h
          refine lv_iconst (v := (0 : Int32)) hx hb dX0_wholePlans_38 (by decide) ?_
          refine wH_wholePlans_J39 C hr hlk  _ _ _ _ _ _ _ _ _ h hw hg (lv_sub hl [0, 1, 2] rfl) ?_
          intro σ x1 x2 g H locs ls h hw hg hl
          exact ih _ _ _ _ _ _ _ h hw hg (lv_sub hl [0, 1, 2] rfl) hK110
        · have h := zz_pos c_31 h
          refine lv_iconst (v := (1 : Int32)) hx hb dX0_wholePlans_34 (by decide) ?_
          refine lv_goto (tgt := 39) hx hb dX0_wholePlans_35 (by decide) ?_
          refine wH_wholePlans_J39 C hr hlk  _ _ _ _ _ _ _ _ _ h hw hg (lv_sub hl [0, 1, 2] rfl) ?_
          intro σ x1 x2 g H locs ls h hw hg hl
          exact ih _ _ _ _ _ _ _ h hw hg (lv_sub hl [0, 1, 2] rfl) hK110
set_option maxRecDepth 100000 in
set_option maxHeartbeats 4000000 in
theorem wH_wholePlans_J110 {p : Program} {l : Launch} {e : Env} {s : State} {m : MethodId} {args : Array Value} {below : List Frame} {meth : Method} {c : Code} {D : va_G} {κ : Nat → ClassId} {ρ : Nat → Nat} {g0 : Gh} (C : CallFix p m c cX0_wholePlans 5 s args wsX0_wholePlans RX0) (hr : meth.sig.returnType = (some .int)) (hlk : meth.locks = false) {N : Nat} {q : Int32 × CSt} : ∀ (σ : CSt) (x1 : Int32) (g : Gh) (H : Heap) (locs : List Loc) (ls : Array Slot), fH_wholePlans_J110 N σ x1 = some q → WC D κ ρ (AC ρ g0 s.heap.size) s.heap g σ s H locs → sub g0 g → lv_has ls 5 [(0, .ref (ρ 99)), (1, .int x1)] → W p l e ({ frames := 1, cells := 0, slots := 0, locals := 23 } : Room) s m args below meth c H locs 0 0 (MQ below (QC D κ ρ s.heap.size g0 q.2 (some (.int q.1))) args s 0 0 (AC ρ g0 s.heap.size)) (F0 m 110 ls []) := by
  have hx := C.1
  have hb := C.2.1
  have hts := C.2.2.2.2
  have hown := C.2.2.2.1
  have k_26 := hts (.fieldLink RX0 26 "PlanCabinet$Chooser" "ways" "[I") (by decide +kernel)
  have in_0 : ∀ w ∈ wsX00, w ∈ wsX0_wholePlans := by decide +kernel
  intro σ x1 g H locs ls h hw hg hl
  unfold fH_wholePlans_J110 at h
  refine lv_iload_n hx hb dX0_wholePlans_110 rfl (lv_at hl 1 rfl) ?_
  refine lv_if_le (tgt := 120) hx hb dX0_wholePlans_111 (by decide) (fun c_111 => ?_) (fun c_111 => ?_)
  · have h := zz_pos c_111 h
    refine lv_iconst (v := (0 : Int32)) hx hb dX0_wholePlans_120 (by decide) ?_
    refine lv_goto (tgt := 130) hx hb dX0_wholePlans_121 (by decide) ?_
    exact W.iret hx hb hr (fun t ht hW => QC.of (by rw [← some_of h]) (by rw [← some_of h]; exact hw) hg ht hW) hw.2.2.2.2 dX0_wholePlans_130
  · have h := zz_neg c_111 h
    refine lv_iload_n hx hb dX0_wholePlans_114 rfl (lv_at hl 1 rfl) ?_
    refine lv_bipush (v := (16 : Int32)) hx hb dX0_wholePlans_115 (by decide) ?_
    refine lv_icmp_lt (tgt := 124) hx hb dX0_wholePlans_117 (by decide) (fun c_117 => ?_) (fun c_117 => ?_)
    · have h := zz_pos c_117 h
      refine lv_aload_n hx hb dX0_wholePlans_124 rfl (lv_at hl 0 rfl) ?_
      refine cG_6 C in_0 hw.1 k_26 dX0_wholePlans_125 ?_
      refine lv_iload_n hx hb dX0_wholePlans_128 rfl (lv_at hl 1 rfl) ?_
      obtain ⟨b_129, h⟩ := chk_of h
      refine cL_6 C hw.1 b_129 dX0_wholePlans_129 ?_
      exact W.iret hx hb hr (fun t ht hW => QC.of (by rw [← some_of h]) (by rw [← some_of h]; exact hw) hg ht hW) hw.2.2.2.2 dX0_wholePlans_130
    · have h := zz_neg c_117 h
      refine lv_iconst (v := (0 : Int32)) hx hb dX0_wholePlans_120 (by decide) ?_
      refine lv_goto (tgt := 130) hx hb dX0_wholePlans_121 (by decide) ?_
      exact W.iret hx hb hr (fun t ht hW => QC.of (by rw [← some_of h]) (by rw [← some_of h]; exact hw) hg ht hW) hw.2.2.2.2 dX0_wholePlans_130
set_option maxRecDepth 100000 in
set_option maxHeartbeats 4000000 in
theorem cH_wholePlans {l : Launch} {D : va_G} {κ : Nat → ClassId} {ρ : Nat → Nat} {g0 : Gh} {sz : Nat} {N : Nat} {σ : CSt} {q : Int32 × CSt} (h : fH_wholePlans N σ = some q) : Met l yX0_wholePlans wsX0_wholePlans ({ frames := 1, cells := 0, slots := 0, locals := 23 } : Room) (va_Pc [.ref (ρ 99)] (PC D κ ρ sz g0 σ)) (QC D κ ρ sz g0 q.2 (some (.int q.1))) 0 0 (AC ρ g0 sz) := by
  refine cMetM (Qc := fun z => QC D κ ρ z g0 q.2 (some (.int q.1))) (ret := (some .int)) (by decide) rfl rfl (Nat.le_of_ble_eq_true rfl) ?_
  intro p e s m below meth c ls C hr hlk hw hl
  obtain ⟨g, eg⟩ : ∃ x, x = g0 := ⟨_, rfl⟩
  have hw : WC D κ ρ (AC ρ g0 s.heap.size) s.heap g σ s s.heap [] := by rw [eg]; exact hw
  have hg : sub g0 g := by rw [eg]; exact sub_rf g0
  have hl : lv_has ls 5 [(0, .ref (ρ 99))] := hl
  unfold fH_wholePlans at h
  have hx := C.1
  have hb := C.2.1
  have hts := C.2.2.2.2
  have hown := C.2.2.2.1
  have k_29 := hts (.fieldLink RX0 29 "PlanCabinet$Chooser" "question" "LPlanCabinet$Question;") (by decide +kernel)
  have in_0 : ∀ w ∈ wsX00, w ∈ wsX0_wholePlans := by decide +kernel
  refine lv_aload_n hx hb dX0_wholePlans_0 rfl (lv_at hl 0 rfl) ?_
  refine cG_0 C in_0 hw.1 k_29 dX0_wholePlans_1 ?_
  obtain ⟨r_4, e_4, h⟩ := bnd_of h
  refine callP (W.runV (As := []) C (cQ_allTables e_4) (cwV 0 hts gX0_wholePlans_X3_allTables rfl rfl rfl (by decide +kernel) ⟨by decide, by decide⟩) (preR (recv_399 hw.1) hw.1) rfl rfl hl.1 rfl (lv_room (Nat.le_of_ble_eq_true rfl)) dX0_wholePlans_4 ⟨Nat.zero_le _, Nat.zero_le _⟩) ?_
  refine lv_istore_n (lv' := [(1, .int r_4), (0, .ref (ρ 99))]) hx hb dX0_wholePlans_7 rfl hl (by decide) rfl (fun ls hl => ?_)
  refine lv_iconst (v := (1 : Int32)) hx hb dX0_wholePlans_8 (by decide) ?_
  refine lv_istore_n (lv' := [(2, .int (1 : Int32)), (1, .int r_4), (0, .ref (ρ 99))]) hx hb dX0_wholePlans_9 rfl hl (by decide) rfl (fun ls hl => ?_)
  refine wH_wholePlans_L10 C hr hlk  _ _ _ _ _ _ _ _ h hw hg (lv_sub hl [2, 1, 0] rfl) ?_
  intro σ x1 g H locs ls h hw hg hl
  exact wH_wholePlans_J110 C hr hlk  _ _ _ _ _ _ h hw hg (lv_sub hl [0, 1] rfl)
