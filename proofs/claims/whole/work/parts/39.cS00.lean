/-! the class, S: planOf, borderAbove, borderBelow, insert, commonDivisor, setBorder, findLeastPrices, find, leastAt, isNear, isRegretLess, worstPoint, leastWrong, findPointsNear, isSetBefore -/
def fS_planOf (N : Nat) (σ : CSt) (x1 : Int32) : Option (Option Pl) := (if x1 < 0 then some none else (if (σ.1 500) ≤ x1 then some none else (if x1 < (120 : Int32) then chk x1 120 (some (σ.2.2.2.2.1 502 x1.toNatClampNeg)) else some none)))
set_option maxRecDepth 100000 in
set_option maxHeartbeats 4000000 in
theorem cS_planOf {l : Launch} {D : va_G} {κ : Nat → ClassId} {ρ : Nat → Nat} {g : Gh} {N : Nat} {σ : CSt} {x1 : Int32} {r : Option Pl} (h : fS_planOf N σ x1 = some r) : Met l yX5_planOf wsX5_planOf ({ frames := 0, cells := 0, slots := 0, locals := 0 } : Room) (va_Pc [.ref (ρ 599), .int x1] (PRC D κ ρ g σ)) (PUq (fun z => pr g.2.2.2 z r)) 0 0 (fun _ => False) := by
  refine cMetR (ret := (some (.object "PlanCabinet$Plan"))) (by decide) rfl rfl (Nat.le_of_ble_eq_true rfl) ?_
  intro p e s m below meth c ls C hr hlk hw hl
  have hl : lv_has ls 2 [(0, .ref (ρ 599)), (1, .int x1)] := hl
  unfold fS_planOf at h
  have hx := C.1
  have hb := C.2.1
  have hts := C.2.2.2.2
  have hown := C.2.2.2.1
  have k_11 := hts (.fieldLink RX5 11 "PlanCabinet$Spans" "keenPlans" "[LPlanCabinet$Plan;") (by decide +kernel)
  have k_34 := hts (.fieldLink RX5 34 "PlanCabinet$Spans" "count" "I") (by decide +kernel)
  have in_5 : ∀ w ∈ wsX50, w ∈ wsX5_planOf := by decide +kernel
  refine lv_iload_n hx hb dX5_planOf_0 rfl (lv_at hl 1 rfl) ?_
  refine lv_if_lt (tgt := 18) hx hb dX5_planOf_1 (by decide) (fun c_1 => ?_) (fun c_1 => ?_)
  · have h := zz_pos c_1 h
    refine lv_null hx hb dX5_planOf_18 ?_
    refine lv_goto (tgt := 28) hx hb dX5_planOf_19 (by decide) ?_
    exact W.aret (v := va_rf none) hx hb hr (Or.inl ⟨_, rfl⟩) (va_rf_or _) (fun t ht hW => ⟨none, rfl, by rw [← some_of h]; exact trivial, ht⟩) (fun _ h => by cases h) dX5_planOf_28
  · have h := zz_neg c_1 h
    refine lv_iload_n hx hb dX5_planOf_4 rfl (lv_at hl 1 rfl) ?_
    refine lv_aload_n hx hb dX5_planOf_5 rfl (lv_at hl 0 rfl) ?_
    refine cG_500 C in_5 hw k_34 dX5_planOf_6 ?_
    refine lv_icmp_ge (tgt := 18) hx hb dX5_planOf_9 (by decide) (fun c_9 => ?_) (fun c_9 => ?_)
    · have h := zz_pos c_9 h
      refine lv_null hx hb dX5_planOf_18 ?_
      refine lv_goto (tgt := 28) hx hb dX5_planOf_19 (by decide) ?_
      exact W.aret (v := va_rf none) hx hb hr (Or.inl ⟨_, rfl⟩) (va_rf_or _) (fun t ht hW => ⟨none, rfl, by rw [← some_of h]; exact trivial, ht⟩) (fun _ h => by cases h) dX5_planOf_28
    · have h := zz_neg c_9 h
      refine lv_iload_n hx hb dX5_planOf_12 rfl (lv_at hl 1 rfl) ?_
      refine lv_bipush (v := (120 : Int32)) hx hb dX5_planOf_13 (by decide) ?_
      refine lv_icmp_lt (tgt := 22) hx hb dX5_planOf_15 (by decide) (fun c_15 => ?_) (fun c_15 => ?_)
      · have h := zz_pos c_15 h
        refine lv_aload_n hx hb dX5_planOf_22 rfl (lv_at hl 0 rfl) ?_
        refine cG_502 C in_5 hw k_11 dX5_planOf_23 ?_
        refine lv_iload_n hx hb dX5_planOf_26 rfl (lv_at hl 1 rfl) ?_
        obtain ⟨b_27, h⟩ := chk_of h
        refine cLP_502 C hw b_27 dX5_planOf_27 (fun z_27 hp_27 => ?_)
        exact W.aret (v := va_rf z_27) hx hb hr (Or.inl ⟨_, rfl⟩) (va_rf_or _) (fun t ht hW => ⟨z_27, rfl, by rw [← some_of h]; exact hp_27, ht⟩) (fun _ h => by cases h) dX5_planOf_28
      · have h := zz_neg c_15 h
        refine lv_null hx hb dX5_planOf_18 ?_
        refine lv_goto (tgt := 28) hx hb dX5_planOf_19 (by decide) ?_
        exact W.aret (v := va_rf none) hx hb hr (Or.inl ⟨_, rfl⟩) (va_rf_or _) (fun t ht hW => ⟨none, rfl, by rw [← some_of h]; exact trivial, ht⟩) (fun _ h => by cases h) dX5_planOf_28
def fS_borderAbove (N : Nat) (σ : CSt) (x1 : Int32) : Option (Int64) := (if x1 < 0 then some (-9223372036854775808 : Int64) else (if (σ.1 500) < x1 then some (-9223372036854775808 : Int64) else (if x1 ≤ (120 : Int32) then chk x1 121 (some (σ.2.2.2.1 503 x1.toNatClampNeg)) else some (-9223372036854775808 : Int64))))
set_option maxRecDepth 100000 in
set_option maxHeartbeats 4000000 in
theorem cS_borderAbove {l : Launch} {D : va_G} {κ : Nat → ClassId} {ρ : Nat → Nat} {g : Gh} {N : Nat} {σ : CSt} {x1 : Int32} {r : Int64} (h : fS_borderAbove N σ x1 = some r) : Met l yX5_borderAbove wsX5_borderAbove ({ frames := 0, cells := 0, slots := 0, locals := 0 } : Room) (va_Pc [.ref (ρ 599), .int x1] (PRC D κ ρ g σ)) (PU (some (.long r))) 0 0 (fun _ => False) := by
  refine cMetR (ret := (some .long)) (by decide) rfl rfl (Nat.le_of_ble_eq_true rfl) ?_
  intro p e s m below meth c ls C hr hlk hw hl
  have hl : lv_has ls 2 [(0, .ref (ρ 599)), (1, .int x1)] := hl
  unfold fS_borderAbove at h
  have hx := C.1
  have hb := C.2.1
  have hts := C.2.2.2.2
  have hown := C.2.2.2.1
  have k_17 := hts (.fieldLink RX5 17 "PlanCabinet$Spans" "bordersAbove" "[J") (by decide +kernel)
  have k_34 := hts (.fieldLink RX5 34 "PlanCabinet$Spans" "count" "I") (by decide +kernel)
  have k_38 := hts (.constantLong RX5 38 (-9223372036854775808)) (by decide +kernel)
  have in_5 : ∀ w ∈ wsX50, w ∈ wsX5_borderAbove := by decide +kernel
  refine lv_iload_n hx hb dX5_borderAbove_0 rfl (lv_at hl 1 rfl) ?_
  refine lv_if_lt (tgt := 18) hx hb dX5_borderAbove_1 (by decide) (fun c_1 => ?_) (fun c_1 => ?_)
  · have h := zz_pos c_1 h
    refine lv_ldc2 hx hb hown k_38 dX5_borderAbove_18 ?_
    refine lv_goto (tgt := 30) hx hb dX5_borderAbove_21 (by decide) ?_
    exact W.lret hx hb hr (fun t ht hW => ⟨by rw [some_of h], ht⟩) (fun _ h => by cases h) dX5_borderAbove_30
  · have h := zz_neg c_1 h
    refine lv_iload_n hx hb dX5_borderAbove_4 rfl (lv_at hl 1 rfl) ?_
    refine lv_aload_n hx hb dX5_borderAbove_5 rfl (lv_at hl 0 rfl) ?_
    refine cG_500 C in_5 hw k_34 dX5_borderAbove_6 ?_
    refine lv_icmp_gt (tgt := 18) hx hb dX5_borderAbove_9 (by decide) (fun c_9 => ?_) (fun c_9 => ?_)
    · have h := zz_pos c_9 h
      refine lv_ldc2 hx hb hown k_38 dX5_borderAbove_18 ?_
      refine lv_goto (tgt := 30) hx hb dX5_borderAbove_21 (by decide) ?_
      exact W.lret hx hb hr (fun t ht hW => ⟨by rw [some_of h], ht⟩) (fun _ h => by cases h) dX5_borderAbove_30
    · have h := zz_neg c_9 h
      refine lv_iload_n hx hb dX5_borderAbove_12 rfl (lv_at hl 1 rfl) ?_
      refine lv_bipush (v := (120 : Int32)) hx hb dX5_borderAbove_13 (by decide) ?_
      refine lv_icmp_le (tgt := 24) hx hb dX5_borderAbove_15 (by decide) (fun c_15 => ?_) (fun c_15 => ?_)
      · have h := zz_pos c_15 h
        refine lv_aload_n hx hb dX5_borderAbove_24 rfl (lv_at hl 0 rfl) ?_
        refine cG_503 C in_5 hw k_17 dX5_borderAbove_25 ?_
        refine lv_iload_n hx hb dX5_borderAbove_28 rfl (lv_at hl 1 rfl) ?_
        obtain ⟨b_29, h⟩ := chk_of h
        refine cL_503 C hw b_29 dX5_borderAbove_29 ?_
        exact W.lret hx hb hr (fun t ht hW => ⟨by rw [some_of h], ht⟩) (fun _ h => by cases h) dX5_borderAbove_30
      · have h := zz_neg c_15 h
        refine lv_ldc2 hx hb hown k_38 dX5_borderAbove_18 ?_
        refine lv_goto (tgt := 30) hx hb dX5_borderAbove_21 (by decide) ?_
        exact W.lret hx hb hr (fun t ht hW => ⟨by rw [some_of h], ht⟩) (fun _ h => by cases h) dX5_borderAbove_30
def fS_borderBelow (N : Nat) (σ : CSt) (x1 : Int32) : Option (Int64) := (if x1 < 0 then some (-9223372036854775808 : Int64) else (if (σ.1 500) < x1 then some (-9223372036854775808 : Int64) else (if x1 ≤ (120 : Int32) then chk x1 121 (some (σ.2.2.2.1 504 x1.toNatClampNeg)) else some (-9223372036854775808 : Int64))))
set_option maxRecDepth 100000 in
set_option maxHeartbeats 4000000 in
theorem cS_borderBelow {l : Launch} {D : va_G} {κ : Nat → ClassId} {ρ : Nat → Nat} {g : Gh} {N : Nat} {σ : CSt} {x1 : Int32} {r : Int64} (h : fS_borderBelow N σ x1 = some r) : Met l yX5_borderBelow wsX5_borderBelow ({ frames := 0, cells := 0, slots := 0, locals := 0 } : Room) (va_Pc [.ref (ρ 599), .int x1] (PRC D κ ρ g σ)) (PU (some (.long r))) 0 0 (fun _ => False) := by
  refine cMetR (ret := (some .long)) (by decide) rfl rfl (Nat.le_of_ble_eq_true rfl) ?_
  intro p e s m below meth c ls C hr hlk hw hl
  have hl : lv_has ls 2 [(0, .ref (ρ 599)), (1, .int x1)] := hl
  unfold fS_borderBelow at h
  have hx := C.1
  have hb := C.2.1
  have hts := C.2.2.2.2
  have hown := C.2.2.2.1
  have k_21 := hts (.fieldLink RX5 21 "PlanCabinet$Spans" "bordersBelow" "[J") (by decide +kernel)
  have k_34 := hts (.fieldLink RX5 34 "PlanCabinet$Spans" "count" "I") (by decide +kernel)
  have k_38 := hts (.constantLong RX5 38 (-9223372036854775808)) (by decide +kernel)
  have in_5 : ∀ w ∈ wsX50, w ∈ wsX5_borderBelow := by decide +kernel
  refine lv_iload_n hx hb dX5_borderBelow_0 rfl (lv_at hl 1 rfl) ?_
  refine lv_if_lt (tgt := 18) hx hb dX5_borderBelow_1 (by decide) (fun c_1 => ?_) (fun c_1 => ?_)
  · have h := zz_pos c_1 h
    refine lv_ldc2 hx hb hown k_38 dX5_borderBelow_18 ?_
    refine lv_goto (tgt := 30) hx hb dX5_borderBelow_21 (by decide) ?_
    exact W.lret hx hb hr (fun t ht hW => ⟨by rw [some_of h], ht⟩) (fun _ h => by cases h) dX5_borderBelow_30
  · have h := zz_neg c_1 h
    refine lv_iload_n hx hb dX5_borderBelow_4 rfl (lv_at hl 1 rfl) ?_
    refine lv_aload_n hx hb dX5_borderBelow_5 rfl (lv_at hl 0 rfl) ?_
    refine cG_500 C in_5 hw k_34 dX5_borderBelow_6 ?_
    refine lv_icmp_gt (tgt := 18) hx hb dX5_borderBelow_9 (by decide) (fun c_9 => ?_) (fun c_9 => ?_)
    · have h := zz_pos c_9 h
      refine lv_ldc2 hx hb hown k_38 dX5_borderBelow_18 ?_
      refine lv_goto (tgt := 30) hx hb dX5_borderBelow_21 (by decide) ?_
      exact W.lret hx hb hr (fun t ht hW => ⟨by rw [some_of h], ht⟩) (fun _ h => by cases h) dX5_borderBelow_30
    · have h := zz_neg c_9 h
      refine lv_iload_n hx hb dX5_borderBelow_12 rfl (lv_at hl 1 rfl) ?_
      refine lv_bipush (v := (120 : Int32)) hx hb dX5_borderBelow_13 (by decide) ?_
      refine lv_icmp_le (tgt := 24) hx hb dX5_borderBelow_15 (by decide) (fun c_15 => ?_) (fun c_15 => ?_)
      · have h := zz_pos c_15 h
        refine lv_aload_n hx hb dX5_borderBelow_24 rfl (lv_at hl 0 rfl) ?_
        refine cG_504 C in_5 hw k_21 dX5_borderBelow_25 ?_
        refine lv_iload_n hx hb dX5_borderBelow_28 rfl (lv_at hl 1 rfl) ?_
        obtain ⟨b_29, h⟩ := chk_of h
        refine cL_504 C hw b_29 dX5_borderBelow_29 ?_
        exact W.lret hx hb hr (fun t ht hW => ⟨by rw [some_of h], ht⟩) (fun _ h => by cases h) dX5_borderBelow_30
      · have h := zz_neg c_15 h
        refine lv_ldc2 hx hb hown k_38 dX5_borderBelow_18 ?_
        refine lv_goto (tgt := 30) hx hb dX5_borderBelow_21 (by decide) ?_
        exact W.lret hx hb hr (fun t ht hW => ⟨by rw [some_of h], ht⟩) (fun _ h => by cases h) dX5_borderBelow_30
def fS_insert_L32 (N : Nat) (K57 : CSt → Int32 → Option Pl → Option (Int32 × CSt)) : Nat → CSt → Int32 → Option Pl → Int32 → Option (Int32 × CSt)
  | 0, _, _, _, _ => none
  | n + 1, σ, x1, x2, x3 => (if x3 ≤ x1 then K57 σ x1 x2 else chk (x3 - (1 : Int32)) 120 (chk x3 120 (fS_insert_L32 N K57 n (cP σ 502 x3.toNatClampNeg (σ.2.2.2.2.1 502 (x3 - (1 : Int32)).toNatClampNeg)) x1 x2 (x3 + (-1)))))
def fS_insert (N : Nat) (σ : CSt) (x1 : Int32) (x2 : Option Pl) : Option (Int32 × CSt) := on x2 (some ((0 : Int32), σ)) (fun x_1 => (if (120 : Int32) ≤ (σ.1 500) then some ((0 : Int32), σ) else (if x1 < 0 then some ((0 : Int32), σ) else (if x1 ≤ (σ.1 500) then fS_insert_L32 N (fun (σ : CSt) (x1 : Int32) (x2 : Option Pl) => chk x1 120 (some ((1 : Int32), (cI (cP σ 502 x1.toNatClampNeg x2) 500 (((cP σ 502 x1.toNatClampNeg x2).1 500) + (1 : Int32)))))) N σ x1 (some x_1) (σ.1 500) else some ((0 : Int32), σ)))))
set_option maxRecDepth 100000 in
set_option maxHeartbeats 4000000 in
theorem wS_insert_L32 {p : Program} {l : Launch} {e : Env} {s : State} {m : MethodId} {args : Array Value} {below : List Frame} {meth : Method} {c : Code} {D : va_G} {κ : Nat → ClassId} {ρ : Nat → Nat} {g0 : Gh} (C : CallFix p m c cX5_insert 4 s args wsX5_insert RX5) (hr : meth.sig.returnType = (some .boolean)) (hlk : meth.locks = false) {N : Nat} {q : Int32 × CSt} {K57 : CSt → Int32 → Option Pl → Option (Int32 × CSt)} : ∀ (n : Nat) (σ : CSt) (x1 : Int32) (x2 : Option Pl) (x3 : Int32) (zx2 : Option Nat) (g : Gh) (H : Heap) (locs : List Loc) (ls : Array Slot), fS_insert_L32 N K57 n σ x1 x2 x3 = some q → WC D κ ρ (AC ρ g0 s.heap.size) s.heap g σ s H locs → sub g0 g → pr g.2.2.2 zx2 x2 → lv_has ls 4 [(0, .ref (ρ 599)), (1, .int x1), (2, va_rf zx2), (3, .int x3)] → (∀ (σ : CSt) (x1 : Int32) (x2 : Option Pl) (zx2 : Option Nat) (g : Gh) (H : Heap) (locs : List Loc) (ls : Array Slot), K57 σ x1 x2 = some q → WC D κ ρ (AC ρ g0 s.heap.size) s.heap g σ s H locs → sub g0 g → pr g.2.2.2 zx2 x2 → lv_has ls 4 [(0, .ref (ρ 599)), (1, .int x1), (2, va_rf zx2)] → W p l e ({ frames := 0, cells := 0, slots := 0, locals := 0 } : Room) s m args below meth c H locs 0 0 (MQ below (QC D κ ρ s.heap.size g0 q.2 (some (.int q.1))) args s 0 0 (AC ρ g0 s.heap.size)) (F0 m 57 ls [])) → W p l e ({ frames := 0, cells := 0, slots := 0, locals := 0 } : Room) s m args below meth c H locs 0 0 (MQ below (QC D κ ρ s.heap.size g0 q.2 (some (.int q.1))) args s 0 0 (AC ρ g0 s.heap.size)) (F0 m 32 ls []) := by
  have hx := C.1
  have hb := C.2.1
  have hts := C.2.2.2.2
  have hown := C.2.2.2.1
  have k_11 := hts (.fieldLink RX5 11 "PlanCabinet$Spans" "keenPlans" "[LPlanCabinet$Plan;") (by decide +kernel)
  have in_5 : ∀ w ∈ wsX50, w ∈ wsX5_insert := by decide +kernel
  intro n
  induction n with
  | zero =>
    intro σ x1 x2 x3 zx2 g H locs ls h hw hg hpx2 hl hK57
    rw [fS_insert_L32] at h
    cases h
  | succ n ih =>
    intro σ x1 x2 x3 zx2 g H locs ls h hw hg hpx2 hl hK57
    rw [fS_insert_L32] at h
    refine lv_iload_n hx hb dX5_insert_32 rfl (lv_at hl 3 rfl) ?_
    refine lv_iload_n hx hb dX5_insert_33 rfl (lv_at hl 1 rfl) ?_
    refine lv_icmp_le (tgt := 57) hx hb dX5_insert_34 (by decide) (fun c_34 => ?_) (fun c_34 => ?_)
    · have h := zz_pos c_34 h
      exact hK57 _ _ _ zx2 _ _ _ _ h hw hg hpx2 (lv_sub hl [0, 1, 2] rfl)
    · have h := zz_neg c_34 h
      refine lv_aload_n hx hb dX5_insert_37 rfl (lv_at hl 0 rfl) ?_
      refine cG_502 C in_5 hw.1 k_11 dX5_insert_38 ?_
      refine lv_iload_n hx hb dX5_insert_41 rfl (lv_at hl 3 rfl) ?_
      refine lv_aload_n hx hb dX5_insert_42 rfl (lv_at hl 0 rfl) ?_
      refine cG_502 C in_5 hw.1 k_11 dX5_insert_43 ?_
      refine lv_iload_n hx hb dX5_insert_46 rfl (lv_at hl 3 rfl) ?_
      refine lv_iconst (v := (1 : Int32)) hx hb dX5_insert_47 (by decide) ?_
      refine lv_isub hx hb dX5_insert_48 ?_
      obtain ⟨b_49, h⟩ := chk_of h
      refine cLP_502 C hw.1 b_49 dX5_insert_49 (fun z_49 hp_49 => ?_)
      obtain ⟨b_50, h⟩ := chk_of h
      refine cSP_502 C (r := z_49) (o := (σ.2.2.2.2.1 502 (x3 - (1 : Int32)).toNatClampNeg)) hw hp_49 b_50 dX5_insert_50 (fun g H locs eg1_50 eg2_50 eg3_50 hw => ?_)
      have hs := sub_eq eg3_50
      have hg := sub_tr hg hs
      have hpx2 := pr_mono hs hpx2
      refine lv_iinc (v := (x3 + (-1))) (lv' := [(3, .int (x3 + (-1))), (0, .ref (ρ 599)), (1, .int x1), (2, va_rf zx2)]) hx hb dX5_insert_51 hl (k := 3) rfl rfl (by decide) (by cases zx2 <;> rfl) (fun ls hl => ?_)
      refine lv_goto (tgt := 32) hx hb dX5_insert_54 (by decide) ?_
      exact ih _ _ _ _ zx2 _ _ _ _ h hw hg hpx2 (lv_sub hl [1, 2, 3, 0] rfl) hK57
set_option maxRecDepth 100000 in
set_option maxHeartbeats 4000000 in
theorem cS_insert {l : Launch} {D : va_G} {κ : Nat → ClassId} {ρ : Nat → Nat} {g0 : Gh} {sz : Nat} {N : Nat} {σ : CSt} {x1 : Int32} {x2 : Option Pl} {zx2 : Option Nat} {q : Int32 × CSt} (h : fS_insert N σ x1 x2 = some q) (hpx2 : pr g0.2.2.2 zx2 x2) : Met l yX5_insert wsX5_insert ({ frames := 0, cells := 0, slots := 0, locals := 0 } : Room) (va_Pc [.ref (ρ 599), .int x1, va_rf zx2] (PC D κ ρ sz g0 σ)) (QC D κ ρ sz g0 q.2 (some (.int q.1))) 0 0 (AC ρ g0 sz) := by
  refine cMetM (Qc := fun z => QC D κ ρ z g0 q.2 (some (.int q.1))) (ret := (some .boolean)) (by decide) rfl rfl (by cases zx2 <;> exact Nat.le_of_ble_eq_true rfl) ?_
  intro p e s m below meth c ls C hr hlk hw hl
  obtain ⟨g, eg⟩ : ∃ x, x = g0 := ⟨_, rfl⟩
  have hw : WC D κ ρ (AC ρ g0 s.heap.size) s.heap g σ s s.heap [] := by rw [eg]; exact hw
  have hg : sub g0 g := by rw [eg]; exact sub_rf g0
  have hpx2 : pr g.2.2.2 zx2 x2 := by rw [eg]; exact hpx2
  have hl : lv_has ls 4 [(0, .ref (ρ 599)), (1, .int x1), (2, va_rf zx2)] := by cases zx2 <;> exact hl
  unfold fS_insert at h
  have hx := C.1
  have hb := C.2.1
  have hts := C.2.2.2.2
  have hown := C.2.2.2.1
  have k_11 := hts (.fieldLink RX5 11 "PlanCabinet$Spans" "keenPlans" "[LPlanCabinet$Plan;") (by decide +kernel)
  have k_34 := hts (.fieldLink RX5 34 "PlanCabinet$Spans" "count" "I") (by decide +kernel)
  have in_5 : ∀ w ∈ wsX50, w ∈ wsX5_insert := by decide +kernel
  refine cAload_n hx hb dX5_insert_0 rfl (lv_at hl 2 rfl) ?_
  refine cNull (tgt := 25) hx hb hpx2 dX5_insert_1 (by decide) (fun ez_1 ex_1 => ?_) (fun z_1 x_1 ez_1 ex_1 hq_1 => ?_)
  · have h := on_none ex_1 h
    subst ez_1
    have hl : lv_has ls 4 [(0, .ref (ρ 599)), (1, .int x1), (2, .null)] := hl
    refine lv_iconst (v := (0 : Int32)) hx hb dX5_insert_25 (by decide) ?_
    exact W.zret (ty := .boolean) hx hb hr (by decide +kernel) (fun t ht hW => QC.of (by rw [← some_of h]) (by rw [← some_of h]; exact hw) hg ht hW) hw.2.2.2.2 dX5_insert_26
  · have h := on_some ex_1 h
    subst ez_1
    have hl : lv_has ls 4 [(0, .ref (ρ 599)), (1, .int x1), (2, .ref z_1)] := hl
    refine lv_aload_n hx hb dX5_insert_4 rfl (lv_at hl 0 rfl) ?_
    refine cG_500 C in_5 hw.1 k_34 dX5_insert_5 ?_
    refine lv_bipush (v := (120 : Int32)) hx hb dX5_insert_8 (by decide) ?_
    refine lv_icmp_ge (tgt := 25) hx hb dX5_insert_10 (by decide) (fun c_10 => ?_) (fun c_10 => ?_)
    · have h := zz_pos c_10 h
      refine lv_iconst (v := (0 : Int32)) hx hb dX5_insert_25 (by decide) ?_
      exact W.zret (ty := .boolean) hx hb hr (by decide +kernel) (fun t ht hW => QC.of (by rw [← some_of h]) (by rw [← some_of h]; exact hw) hg ht hW) hw.2.2.2.2 dX5_insert_26
    · have h := zz_neg c_10 h
      refine lv_iload_n hx hb dX5_insert_13 rfl (lv_at hl 1 rfl) ?_
      refine lv_if_lt (tgt := 25) hx hb dX5_insert_14 (by decide) (fun c_14 => ?_) (fun c_14 => ?_)
      · have h := zz_pos c_14 h
        refine lv_iconst (v := (0 : Int32)) hx hb dX5_insert_25 (by decide) ?_
        exact W.zret (ty := .boolean) hx hb hr (by decide +kernel) (fun t ht hW => QC.of (by rw [← some_of h]) (by rw [← some_of h]; exact hw) hg ht hW) hw.2.2.2.2 dX5_insert_26
      · have h := zz_neg c_14 h
        refine lv_iload_n hx hb dX5_insert_17 rfl (lv_at hl 1 rfl) ?_
        refine lv_aload_n hx hb dX5_insert_18 rfl (lv_at hl 0 rfl) ?_
        refine cG_500 C in_5 hw.1 k_34 dX5_insert_19 ?_
        refine lv_icmp_le (tgt := 27) hx hb dX5_insert_22 (by decide) (fun c_22 => ?_) (fun c_22 => ?_)
        · have h := zz_pos c_22 h
          refine lv_aload_n hx hb dX5_insert_27 rfl (lv_at hl 0 rfl) ?_
          refine cG_500 C in_5 hw.1 k_34 dX5_insert_28 ?_
          refine lv_istore_n (lv' := [(3, .int (σ.1 500)), (0, .ref (ρ 599)), (1, .int x1), (2, .ref z_1)]) hx hb dX5_insert_31 rfl hl (by decide) rfl (fun ls hl => ?_)
          refine wS_insert_L32 C hr hlk  _ _ _ _ _ (some z_1) _ _ _ _ h hw hg (pr_in hq_1) (lv_sub hl [1, 2, 3, 0] rfl) ?_
          intro σ x1 x2 zx2 g H locs ls h hw hg hpx2 hl
          refine lv_aload_n hx hb dX5_insert_57 rfl (lv_at hl 0 rfl) ?_
          refine cG_502 C in_5 hw.1 k_11 dX5_insert_58 ?_
          refine lv_iload_n hx hb dX5_insert_61 rfl (lv_at hl 1 rfl) ?_
          refine cAload_n hx hb dX5_insert_62 rfl (lv_at hl 2 rfl) ?_
          obtain ⟨b_63, h⟩ := chk_of h
          refine cSP_502 C (r := zx2) (o := x2) hw hpx2 b_63 dX5_insert_63 (fun g H locs eg1_63 eg2_63 eg3_63 hw => ?_)
          have hs := sub_eq eg3_63
          have hg := sub_tr hg hs
          have hpx2 := pr_mono hs hpx2
          refine lv_aload_n hx hb dX5_insert_64 rfl (lv_at hl 0 rfl) ?_
          refine lv_dup hx hb dX5_insert_65 rfl ?_
          refine cG_500 C in_5 hw.1 k_34 dX5_insert_66 ?_
          refine lv_iconst (v := (1 : Int32)) hx hb dX5_insert_69 (by decide) ?_
          refine lv_iadd hx hb dX5_insert_70 ?_
          refine cPf_500 C in_5 hw k_34 dX5_insert_71 (fun H locs hw => ?_)
          refine lv_iconst (v := (1 : Int32)) hx hb dX5_insert_74 (by decide) ?_
          exact W.zret (ty := .boolean) hx hb hr (by decide +kernel) (fun t ht hW => QC.of (by rw [← some_of h]) (by rw [← some_of h]; exact hw) hg ht hW) hw.2.2.2.2 dX5_insert_75
        · have h := zz_neg c_22 h
          refine lv_iconst (v := (0 : Int32)) hx hb dX5_insert_25 (by decide) ?_
          exact W.zret (ty := .boolean) hx hb hr (by decide +kernel) (fun t ht hW => QC.of (by rw [← some_of h]) (by rw [← some_of h]; exact hw) hg ht hW) hw.2.2.2.2 dX5_insert_26
def fS_commonDivisor_L9 (N : Nat) : Nat → Int64 → Int64 → Int32 → Option (Int64)
  | 0, _, _, _ => none
  | n + 1, x4, x6, x8 => (if (200 : Int32) ≤ x8 then some x4 else (if (lg_cmp x6 (0 : Int64)) = 0 then some x4 else nz64 x6 (fS_commonDivisor_L9 N n x6 (x4 - x4 / x6 * x6) (x8 + 1))))
def fS_commonDivisor (N : Nat) (x0 : Int64) (x2 : Int64) : Option (Int64) := fS_commonDivisor_L9 N N x0 x2 (0 : Int32)
set_option maxRecDepth 100000 in
set_option maxHeartbeats 4000000 in
theorem wS_commonDivisor_L9 {p : Program} {l : Launch} {e : Env} {s : State} {m : MethodId} {args : Array Value} {below : List Frame} {meth : Method} {c : Code} (C : CallFix p m c cX5_commonDivisor 11 s args wsX5_commonDivisor RX5) (hr : meth.sig.returnType = (some .long)) (hlk : meth.locks = false) {N : Nat} {r : Int64} : ∀ (n : Nat) (x4 : Int64) (x6 : Int64) (x8 : Int32) (ls : Array Slot), fS_commonDivisor_L9 N n x4 x6 x8 = some r → lv_has ls 11 [(4, .long x4), (6, .long x6), (8, .int x8)] → W p l e ({ frames := 0, cells := 0, slots := 0, locals := 0 } : Room) s m args below meth c s.heap [] 0 0 (MQ below (PU (some (.long r))) args s 0 0 (fun _ => False)) (F0 m 9 ls []) := by
  have hx := C.1
  have hb := C.2.1
  have hts := C.2.2.2.2
  have hown := C.2.2.2.1
  intro n
  induction n with
  | zero =>
    intro x4 x6 x8 ls h hl
    rw [fS_commonDivisor_L9] at h
    cases h
  | succ n ih =>
    intro x4 x6 x8 ls h hl
    rw [fS_commonDivisor_L9] at h
    refine lv_iload hx hb dX5_commonDivisor_9 (lv_at hl 2 rfl) ?_
    refine lv_sipush (v := (200 : Int32)) hx hb dX5_commonDivisor_11 (by decide) ?_
    refine lv_icmp_ge (tgt := 45) hx hb dX5_commonDivisor_14 (by decide) (fun c_14 => ?_) (fun c_14 => ?_)
    · have h := zz_pos c_14 h
      refine lv_lload hx hb dX5_commonDivisor_45 (lv_at hl 0 rfl) ?_
      exact W.lret hx hb hr (fun t ht hW => ⟨by rw [some_of h], ht⟩) (fun _ h => by cases h) dX5_commonDivisor_47
    · have h := zz_neg c_14 h
      refine lv_lload hx hb dX5_commonDivisor_17 (lv_at hl 1 rfl) ?_
      refine lv_lconst (v := (0 : Int64)) hx hb dX5_commonDivisor_19 (by decide) ?_
      refine W.lcmp hx hb dX5_commonDivisor_20 ?_
      refine lv_if_eq (tgt := 45) hx hb dX5_commonDivisor_21 (by decide) (fun c_21 => ?_) (fun c_21 => ?_)
      · have h := zz_pos c_21 h
        refine lv_lload hx hb dX5_commonDivisor_45 (lv_at hl 0 rfl) ?_
        exact W.lret hx hb hr (fun t ht hW => ⟨by rw [some_of h], ht⟩) (fun _ h => by cases h) dX5_commonDivisor_47
      · have h := zz_neg c_21 h
        refine lv_lload hx hb dX5_commonDivisor_24 (lv_at hl 0 rfl) ?_
        refine lv_lload hx hb dX5_commonDivisor_26 (lv_at hl 1 rfl) ?_
        obtain ⟨b_28, h⟩ := nz64_of h
        refine lv_lrem hx hb dX5_commonDivisor_28 b_28 ?_
        refine lv_lstore (lv' := [(9, .long (x4 - x4 / x6 * x6)), (4, .long x4), (6, .long x6), (8, .int x8)]) hx hb dX5_commonDivisor_29 hl (by decide) rfl (fun ls hl => ?_)
        refine lv_lload hx hb dX5_commonDivisor_31 (lv_at hl 2 rfl) ?_
        refine lv_lstore (lv' := [(4, .long x6), (9, .long (x4 - x4 / x6 * x6)), (6, .long x6), (8, .int x8)]) hx hb dX5_commonDivisor_33 hl (by decide) rfl (fun ls hl => ?_)
        refine lv_lload hx hb dX5_commonDivisor_35 (lv_at hl 1 rfl) ?_
        refine lv_lstore (lv' := [(6, .long (x4 - x4 / x6 * x6)), (4, .long x6), (9, .long (x4 - x4 / x6 * x6)), (8, .int x8)]) hx hb dX5_commonDivisor_37 hl (by decide) rfl (fun ls hl => ?_)
        refine lv_iinc (v := (x8 + 1)) (lv' := [(8, .int (x8 + 1)), (6, .long (x4 - x4 / x6 * x6)), (4, .long x6), (9, .long (x4 - x4 / x6 * x6))]) hx hb dX5_commonDivisor_39 hl (k := 3) rfl rfl (by decide) rfl (fun ls hl => ?_)
        refine lv_goto (tgt := 9) hx hb dX5_commonDivisor_42 (by decide) ?_
        exact ih _ _ _ _ h (lv_sub hl [2, 1, 0] rfl)
set_option maxRecDepth 100000 in
set_option maxHeartbeats 4000000 in
theorem cS_commonDivisor {l : Launch} {N : Nat}  {x0 : Int64} {x2 : Int64} {r : Int64} (h : fS_commonDivisor N x0 x2 = some r) : Met l yX5_commonDivisor wsX5_commonDivisor ({ frames := 0, cells := 0, slots := 0, locals := 0 } : Room) (va_Pc [.long x0, .long x2] (fun _ => True)) (PU (some (.long r))) 0 0 (fun _ => False) := by
  refine sMet (ret := (some .long)) (by decide) rfl rfl (Nat.le_of_ble_eq_true rfl) ?_
  intro p e s m below meth c ls C hr hlk hl
  have hl : lv_has ls 11 [(0, .long x0), (2, .long x2)] := hl
  unfold fS_commonDivisor at h
  have hx := C.1
  have hb := C.2.1
  have hts := C.2.2.2.2
  have hown := C.2.2.2.1
  refine lv_lload_n hx hb dX5_commonDivisor_0 rfl (lv_at hl 0 rfl) ?_
  refine lv_lstore (lv' := [(4, .long x0), (0, .long x0), (2, .long x2)]) hx hb dX5_commonDivisor_1 hl (by decide) rfl (fun ls hl => ?_)
  refine lv_lload_n hx hb dX5_commonDivisor_3 rfl (lv_at hl 2 rfl) ?_
  refine lv_lstore (lv' := [(6, .long x2), (4, .long x0), (0, .long x0), (2, .long x2)]) hx hb dX5_commonDivisor_4 hl (by decide) rfl (fun ls hl => ?_)
  refine lv_iconst (v := (0 : Int32)) hx hb dX5_commonDivisor_6 (by decide) ?_
  refine lv_istore (lv' := [(8, .int (0 : Int32)), (6, .long x2), (4, .long x0), (0, .long x0), (2, .long x2)]) hx hb dX5_commonDivisor_7 hl (by decide) rfl (fun ls hl => ?_)
  exact wS_commonDivisor_L9 C hr hlk  _ _ _ _ _ h (lv_sub hl [2, 1, 0] rfl)
def fS_setBorder (N : Nat) (σ : CSt) (x1 : Int32) (x2 : Int64) (x4 : Int64) : Option (CSt) := (fS_commonDivisor N x2 x4).bind fun r_3 => (if x1 < 0 then some σ else (if (120 : Int32) < x1 then some σ else (if (lg_cmp r_3 (0 : Int64)) ≤ 0 then some σ else nz64 r_3 (chk x1 121 (nz64 r_3 (chk x1 121 (some (cB (cB σ 503 x1.toNatClampNeg (x2 / r_3)) 504 x1.toNatClampNeg (x4 / r_3)))))))))
set_option maxRecDepth 100000 in
set_option maxHeartbeats 4000000 in
theorem cS_setBorder {l : Launch} {D : va_G} {κ : Nat → ClassId} {ρ : Nat → Nat} {g0 : Gh} {sz : Nat} {N : Nat} {σ : CSt} {x1 : Int32} {x2 : Int64} {x4 : Int64} {q : CSt} (h : fS_setBorder N σ x1 x2 x4 = some q) : Met l yX5_setBorder wsX5_setBorder ({ frames := 1, cells := 0, slots := 0, locals := 30 } : Room) (va_Pc [.ref (ρ 599), .int x1, .long x2, .long x4] (PC D κ ρ sz g0 σ)) (QC D κ ρ sz g0 q none) 0 0 (AC ρ g0 sz) := by
  refine cMetM (Qc := fun z => QC D κ ρ z g0 q none) (ret := none) (by decide) rfl rfl (Nat.le_of_ble_eq_true rfl) ?_
  intro p e s m below meth c ls C hr hlk hw hl
  obtain ⟨g, eg⟩ : ∃ x, x = g0 := ⟨_, rfl⟩
  have hw : WC D κ ρ (AC ρ g0 s.heap.size) s.heap g σ s s.heap [] := by rw [eg]; exact hw
  have hg : sub g0 g := by rw [eg]; exact sub_rf g0
  have hl : lv_has ls 8 [(0, .ref (ρ 599)), (1, .int x1), (2, .long x2), (4, .long x4)] := hl
  unfold fS_setBorder at h
  have hx := C.1
  have hb := C.2.1
  have hts := C.2.2.2.2
  have hown := C.2.2.2.1
  have k_17 := hts (.fieldLink RX5 17 "PlanCabinet$Spans" "bordersAbove" "[J") (by decide +kernel)
  have k_21 := hts (.fieldLink RX5 21 "PlanCabinet$Spans" "bordersBelow" "[J") (by decide +kernel)
  have in_5 : ∀ w ∈ wsX50, w ∈ wsX5_setBorder := by decide +kernel
  refine lv_lload_n hx hb dX5_setBorder_0 rfl (lv_at hl 2 rfl) ?_
  refine lv_lload hx hb dX5_setBorder_1 (lv_at hl 3 rfl) ?_
  obtain ⟨r_3, e_3, h⟩ := bnd_of h
  refine callP (W.runS (As := [.long x2, .long x4]) C (cS_commonDivisor e_3) (cwS 2 hts gX5_setBorder_X5_commonDivisor rfl rfl rfl (by decide +kernel) ⟨by decide, by decide⟩) preT rfl rfl hl.1 rfl (lv_room (Nat.le_of_ble_eq_true rfl)) dX5_setBorder_3 ⟨Nat.zero_le _, Nat.zero_le _⟩) ?_
  refine lv_lstore (lv' := [(6, .long r_3), (0, .ref (ρ 599)), (1, .int x1), (2, .long x2), (4, .long x4)]) hx hb dX5_setBorder_6 hl (by decide) rfl (fun ls hl => ?_)
  refine lv_iload_n hx hb dX5_setBorder_8 rfl (lv_at hl 2 rfl) ?_
  refine lv_if_lt (tgt := 46) hx hb dX5_setBorder_9 (by decide) (fun c_9 => ?_) (fun c_9 => ?_)
  · have h := zz_pos c_9 h
    exact W.vret hx hb hr (fun t ht hW => QC.of rfl (by rw [← some_of h]; exact hw) hg ht hW) hw.2.2.2.2 dX5_setBorder_46
  · have h := zz_neg c_9 h
    refine lv_iload_n hx hb dX5_setBorder_12 rfl (lv_at hl 2 rfl) ?_
    refine lv_bipush (v := (120 : Int32)) hx hb dX5_setBorder_13 (by decide) ?_
    refine lv_icmp_gt (tgt := 46) hx hb dX5_setBorder_15 (by decide) (fun c_15 => ?_) (fun c_15 => ?_)
    · have h := zz_pos c_15 h
      exact W.vret hx hb hr (fun t ht hW => QC.of rfl (by rw [← some_of h]; exact hw) hg ht hW) hw.2.2.2.2 dX5_setBorder_46
    · have h := zz_neg c_15 h
      refine lv_lload hx hb dX5_setBorder_18 (lv_at hl 0 rfl) ?_
      refine lv_lconst (v := (0 : Int64)) hx hb dX5_setBorder_20 (by decide) ?_
      refine W.lcmp hx hb dX5_setBorder_21 ?_
      refine lv_if_le (tgt := 46) hx hb dX5_setBorder_22 (by decide) (fun c_22 => ?_) (fun c_22 => ?_)
      · have h := zz_pos c_22 h
        exact W.vret hx hb hr (fun t ht hW => QC.of rfl (by rw [← some_of h]; exact hw) hg ht hW) hw.2.2.2.2 dX5_setBorder_46
      · have h := zz_neg c_22 h
        refine lv_aload_n hx hb dX5_setBorder_25 rfl (lv_at hl 1 rfl) ?_
        refine cG_503 C in_5 hw.1 k_17 dX5_setBorder_26 ?_
        refine lv_iload_n hx hb dX5_setBorder_29 rfl (lv_at hl 2 rfl) ?_
        refine lv_lload_n hx hb dX5_setBorder_30 rfl (lv_at hl 3 rfl) ?_
        refine lv_lload hx hb dX5_setBorder_31 (lv_at hl 0 rfl) ?_
        obtain ⟨b_33, h⟩ := nz64_of h
        refine lv_ldiv hx hb dX5_setBorder_33 b_33 ?_
        obtain ⟨b_34, h⟩ := chk_of h
        refine cS_503 C hw b_34 dX5_setBorder_34 (fun H locs hw => ?_)
        refine lv_aload_n hx hb dX5_setBorder_35 rfl (lv_at hl 1 rfl) ?_
        refine cG_504 C in_5 hw.1 k_21 dX5_setBorder_36 ?_
        refine lv_iload_n hx hb dX5_setBorder_39 rfl (lv_at hl 2 rfl) ?_
        refine lv_lload hx hb dX5_setBorder_40 (lv_at hl 4 rfl) ?_
        refine lv_lload hx hb dX5_setBorder_42 (lv_at hl 0 rfl) ?_
        obtain ⟨b_44, h⟩ := nz64_of h
        refine lv_ldiv hx hb dX5_setBorder_44 b_44 ?_
        obtain ⟨b_45, h⟩ := chk_of h
        refine cS_504 C hw b_45 dX5_setBorder_45 (fun H locs hw => ?_)
        exact W.vret hx hb hr (fun t ht hW => QC.of rfl (by rw [← some_of h]; exact hw) hg ht hW) hw.2.2.2.2 dX5_setBorder_46
def fS_findLeastPrices_L15 (N : Nat) (K54 : CSt → Int32 → Int64 → Option (CSt)) : Nat → CSt → Int32 → Int64 → Int32 → Option (CSt)
  | 0, _, _, _, _ => none
  | n + 1, σ, x1, x2, x4 => (if (σ.1 500) ≤ x4 then K54 σ x1 x2 else (fS_planOf N σ x4).bind fun r_27 => on r_27 (fS_findLeastPrices_L15 N K54 n σ x1 x2 (x4 + 1)) (fun x_34 => (fP_priceAt N σ x_34 x1).bind fun r_41 => fS_findLeastPrices_L15 N K54 n σ x1 (if r_41 < x2 then r_41 else x2) (x4 + 1)))
def fS_findLeastPrices_L2 (N : Nat) : Nat → CSt → Int32 → Option (CSt)
  | 0, _, _ => none
  | n + 1, σ, x1 => (if (33 : Int32) ≤ x1 then some σ else fS_findLeastPrices_L15 N (fun (σ : CSt) (x1 : Int32) (x2 : Int64) => chk x1 33 (fS_findLeastPrices_L2 N n (cB σ 505 x1.toNatClampNeg x2) (x1 + 1))) N σ x1 (9223372036854775807 : Int64) (0 : Int32))
def fS_findLeastPrices (N : Nat) (σ : CSt) : Option (CSt) := fS_findLeastPrices_L2 N N σ (0 : Int32)
set_option maxRecDepth 100000 in
set_option maxHeartbeats 4000000 in
theorem wS_findLeastPrices_L15 {p : Program} {l : Launch} {e : Env} {s : State} {m : MethodId} {args : Array Value} {below : List Frame} {meth : Method} {c : Code} {D : va_G} {κ : Nat → ClassId} {ρ : Nat → Nat} {g0 : Gh} (C : CallFix p m c cX5_findLeastPrices 6 s args wsX5_findLeastPrices RX5) (hr : meth.sig.returnType = none) (hlk : meth.locks = false) {N : Nat} {q : CSt} {K54 : CSt → Int32 → Int64 → Option (CSt)} : ∀ (n : Nat) (σ : CSt) (x1 : Int32) (x2 : Int64) (x4 : Int32) (g : Gh) (H : Heap) (locs : List Loc) (ls : Array Slot), fS_findLeastPrices_L15 N K54 n σ x1 x2 x4 = some q → WC D κ ρ (AC ρ g0 s.heap.size) s.heap g σ s H locs → sub g0 g → lv_has ls 6 [(0, .ref (ρ 599)), (1, .int x1), (2, .long x2), (4, .int x4)] → (∀ (σ : CSt) (x1 : Int32) (x2 : Int64) (g : Gh) (H : Heap) (locs : List Loc) (ls : Array Slot), K54 σ x1 x2 = some q → WC D κ ρ (AC ρ g0 s.heap.size) s.heap g σ s H locs → sub g0 g → lv_has ls 6 [(0, .ref (ρ 599)), (1, .int x1), (2, .long x2)] → W p l e ({ frames := 1, cells := 0, slots := 0, locals := 25 } : Room) s m args below meth c H locs 0 0 (MQ below (QC D κ ρ s.heap.size g0 q none) args s 0 0 (AC ρ g0 s.heap.size)) (F0 m 54 ls [])) → W p l e ({ frames := 1, cells := 0, slots := 0, locals := 25 } : Room) s m args below meth c H locs 0 0 (MQ below (QC D κ ρ s.heap.size g0 q none) args s 0 0 (AC ρ g0 s.heap.size)) (F0 m 15 ls []) := by
  have hx := C.1
  have hb := C.2.1
  have hts := C.2.2.2.2
  have hown := C.2.2.2.1
  have k_34 := hts (.fieldLink RX5 34 "PlanCabinet$Spans" "count" "I") (by decide +kernel)
  have in_5 : ∀ w ∈ wsX50, w ∈ wsX5_findLeastPrices := by decide +kernel
  intro n
  induction n with
  | zero =>
    intro σ x1 x2 x4 g H locs ls h hw hg hl hK54
    rw [fS_findLeastPrices_L15] at h
    cases h
  | succ n ih =>
    intro σ x1 x2 x4 g H locs ls h hw hg hl hK54
    rw [fS_findLeastPrices_L15] at h
    refine lv_iload hx hb dX5_findLeastPrices_15 (lv_at hl 3 rfl) ?_
    refine lv_aload_n hx hb dX5_findLeastPrices_17 rfl (lv_at hl 0 rfl) ?_
    refine cG_500 C in_5 hw.1 k_34 dX5_findLeastPrices_18 ?_
    refine lv_icmp_ge (tgt := 54) hx hb dX5_findLeastPrices_21 (by decide) (fun c_21 => ?_) (fun c_21 => ?_)
    · have h := zz_pos c_21 h
      exact hK54 _ _ _ _ _ _ _ h hw hg (lv_sub hl [0, 1, 2] rfl)
    · have h := zz_neg c_21 h
      refine lv_aload_n hx hb dX5_findLeastPrices_24 rfl (lv_at hl 0 rfl) ?_
      refine lv_iload hx hb dX5_findLeastPrices_25 (lv_at hl 3 rfl) ?_
      obtain ⟨r_27, e_27, h⟩ := bnd_of h
      refine callPq (W.runV (As := [.int x4]) C (cS_planOf e_27) (cwV 1 hts gX5_findLeastPrices_X5_planOf rfl rfl rfl (by decide +kernel) ⟨by decide, by decide⟩) (preR (recv_599 hw.1) hw.1) rfl rfl hl.1 rfl (lv_room (Nat.le_of_ble_eq_true rfl)) dX5_findLeastPrices_27 ⟨Nat.zero_le _, Nat.zero_le _⟩) (fun z_27 hp_27 => ?_)
      refine cAstore (lv' := [(5, va_rf z_27), (0, .ref (ρ 599)), (1, .int x1), (2, .long x2), (4, .int x4)]) hx hb dX5_findLeastPrices_30 hl (by decide) rfl (fun ls hl => ?_)
      refine cAload hx hb dX5_findLeastPrices_32 (lv_at hl 0 rfl) ?_
      refine cNull (tgt := 48) hx hb hp_27 dX5_findLeastPrices_34 (by decide) (fun ez_34 ex_34 => ?_) (fun z_34 x_34 ez_34 ex_34 hq_34 => ?_)
      · have h := on_none ex_34 h
        subst ez_34
        have hl : lv_has ls 6 [(5, .null), (0, .ref (ρ 599)), (1, .int x1), (2, .long x2), (4, .int x4)] := hl
        refine lv_iinc (v := (x4 + 1)) (lv' := [(4, .int (x4 + 1)), (5, .null), (0, .ref (ρ 599)), (1, .int x1), (2, .long x2)]) hx hb dX5_findLeastPrices_48 hl (k := 4) rfl rfl (by decide) rfl (fun ls hl => ?_)
        refine lv_goto (tgt := 15) hx hb dX5_findLeastPrices_51 (by decide) ?_
        exact ih _ _ _ _ _ _ _ _ h hw hg (lv_sub hl [2, 3, 4, 0] rfl) hK54
      · have h := on_some ex_34 h
        subst ez_34
        have hl : lv_has ls 6 [(5, .ref z_34), (0, .ref (ρ 599)), (1, .int x1), (2, .long x2), (4, .int x4)] := hl
        refine lv_lload_n hx hb dX5_findLeastPrices_37 rfl (lv_at hl 3 rfl) ?_
        refine lv_aload hx hb dX5_findLeastPrices_38 (lv_at hl 0 rfl) ?_
        refine lv_iload_n hx hb dX5_findLeastPrices_40 rfl (lv_at hl 2 rfl) ?_
        obtain ⟨r_41, e_41, h⟩ := bnd_of h
        refine callP (W.runV (As := [.int x1]) C (cP_priceAt e_41 hq_34) (cwV 1 hts gX5_findLeastPrices_X1_priceAt rfl rfl rfl (by decide +kernel) ⟨by decide, by decide⟩) (preR (recvP hw.1 hq_34) hw.1) rfl rfl hl.1 rfl (lv_room (Nat.le_of_ble_eq_true rfl)) dX5_findLeastPrices_41 ⟨Nat.zero_le _, Nat.zero_le _⟩) ?_
        refine va_mmin_long hx hb (C.2.2.1.trans hl.1.symm) hown (hts (.methodLink RX5 90 yJ9_min_f86c9) (by decide +kernel)) (hts (.static yJ9_min_f86c9) (by decide +kernel)) (hts (.initialized RJ9) (by decide +kernel)) (hts (.code yJ9_min_f86c9 cJ9_min_f86c9 4 (some .long)) (by decide +kernel)) (Nat.le_of_ble_eq_true rfl) (Nat.le_of_ble_eq_true rfl) (Nat.zero_le _) (Nat.zero_le _) dX5_findLeastPrices_44 ?_
        refine lv_lstore_n (lv' := [(2, .long (if r_41 < x2 then r_41 else x2)), (5, .ref z_34), (0, .ref (ρ 599)), (1, .int x1), (4, .int x4)]) hx hb dX5_findLeastPrices_47 rfl hl (by decide) rfl (fun ls hl => ?_)
        refine lv_iinc (v := (x4 + 1)) (lv' := [(4, .int (x4 + 1)), (2, .long (if r_41 < x2 then r_41 else x2)), (5, .ref z_34), (0, .ref (ρ 599)), (1, .int x1)]) hx hb dX5_findLeastPrices_48 hl (k := 4) rfl rfl (by decide) rfl (fun ls hl => ?_)
        refine lv_goto (tgt := 15) hx hb dX5_findLeastPrices_51 (by decide) ?_
        exact ih _ _ _ _ _ _ _ _ h hw hg (lv_sub hl [3, 4, 1, 0] rfl) hK54
set_option maxRecDepth 100000 in
set_option maxHeartbeats 4000000 in
theorem wS_findLeastPrices_L2 {p : Program} {l : Launch} {e : Env} {s : State} {m : MethodId} {args : Array Value} {below : List Frame} {meth : Method} {c : Code} {D : va_G} {κ : Nat → ClassId} {ρ : Nat → Nat} {g0 : Gh} (C : CallFix p m c cX5_findLeastPrices 6 s args wsX5_findLeastPrices RX5) (hr : meth.sig.returnType = none) (hlk : meth.locks = false) {N : Nat} {q : CSt} : ∀ (n : Nat) (σ : CSt) (x1 : Int32) (g : Gh) (H : Heap) (locs : List Loc) (ls : Array Slot), fS_findLeastPrices_L2 N n σ x1 = some q → WC D κ ρ (AC ρ g0 s.heap.size) s.heap g σ s H locs → sub g0 g → lv_has ls 6 [(0, .ref (ρ 599)), (1, .int x1)] → W p l e ({ frames := 1, cells := 0, slots := 0, locals := 25 } : Room) s m args below meth c H locs 0 0 (MQ below (QC D κ ρ s.heap.size g0 q none) args s 0 0 (AC ρ g0 s.heap.size)) (F0 m 2 ls []) := by
  have hx := C.1
  have hb := C.2.1
  have hts := C.2.2.2.2
  have hown := C.2.2.2.1
  have k_24 := hts (.fieldLink RX5 24 "PlanCabinet$Spans" "leastPrices" "[J") (by decide +kernel)
  have k_84 := hts (.constantLong RX5 84 (9223372036854775807)) (by decide +kernel)
  have in_5 : ∀ w ∈ wsX50, w ∈ wsX5_findLeastPrices := by decide +kernel
  intro n
  induction n with
  | zero =>
    intro σ x1 g H locs ls h hw hg hl
    rw [fS_findLeastPrices_L2] at h
    cases h
  | succ n ih =>
    intro σ x1 g H locs ls h hw hg hl
    rw [fS_findLeastPrices_L2] at h
    refine lv_iload_n hx hb dX5_findLeastPrices_2 rfl (lv_at hl 1 rfl) ?_
    refine lv_bipush (v := (33 : Int32)) hx hb dX5_findLeastPrices_3 (by decide) ?_
    refine lv_icmp_ge (tgt := 67) hx hb dX5_findLeastPrices_5 (by decide) (fun c_5 => ?_) (fun c_5 => ?_)
    · have h := zz_pos c_5 h
      exact W.vret hx hb hr (fun t ht hW => QC.of rfl (by rw [← some_of h]; exact hw) hg ht hW) hw.2.2.2.2 dX5_findLeastPrices_67
    · have h := zz_neg c_5 h
      refine lv_ldc2 hx hb hown k_84 dX5_findLeastPrices_8 ?_
      refine lv_lstore_n (lv' := [(2, .long (9223372036854775807 : Int64)), (0, .ref (ρ 599)), (1, .int x1)]) hx hb dX5_findLeastPrices_11 rfl hl (by decide) rfl (fun ls hl => ?_)
      refine lv_iconst (v := (0 : Int32)) hx hb dX5_findLeastPrices_12 (by decide) ?_
      refine lv_istore (lv' := [(4, .int (0 : Int32)), (2, .long (9223372036854775807 : Int64)), (0, .ref (ρ 599)), (1, .int x1)]) hx hb dX5_findLeastPrices_13 hl (by decide) rfl (fun ls hl => ?_)
      refine wS_findLeastPrices_L15 C hr hlk  _ _ _ _ _ _ _ _ _ h hw hg (lv_sub hl [2, 3, 1, 0] rfl) ?_
      intro σ x1 x2 g H locs ls h hw hg hl
      refine lv_aload_n hx hb dX5_findLeastPrices_54 rfl (lv_at hl 0 rfl) ?_
      refine cG_505 C in_5 hw.1 k_24 dX5_findLeastPrices_55 ?_
      refine lv_iload_n hx hb dX5_findLeastPrices_58 rfl (lv_at hl 1 rfl) ?_
      refine lv_lload_n hx hb dX5_findLeastPrices_59 rfl (lv_at hl 2 rfl) ?_
      obtain ⟨b_60, h⟩ := chk_of h
      refine cS_505 C hw b_60 dX5_findLeastPrices_60 (fun H locs hw => ?_)
      refine lv_iinc (v := (x1 + 1)) (lv' := [(1, .int (x1 + 1)), (0, .ref (ρ 599)), (2, .long x2)]) hx hb dX5_findLeastPrices_61 hl (k := 1) rfl rfl (by decide) rfl (fun ls hl => ?_)
      refine lv_goto (tgt := 2) hx hb dX5_findLeastPrices_64 (by decide) ?_
      exact ih _ _ _ _ _ _ h hw hg (lv_sub hl [1, 0] rfl)
set_option maxRecDepth 100000 in
set_option maxHeartbeats 4000000 in
theorem cS_findLeastPrices {l : Launch} {D : va_G} {κ : Nat → ClassId} {ρ : Nat → Nat} {g0 : Gh} {sz : Nat} {N : Nat} {σ : CSt} {q : CSt} (h : fS_findLeastPrices N σ = some q) : Met l yX5_findLeastPrices wsX5_findLeastPrices ({ frames := 1, cells := 0, slots := 0, locals := 25 } : Room) (va_Pc [.ref (ρ 599)] (PC D κ ρ sz g0 σ)) (QC D κ ρ sz g0 q none) 0 0 (AC ρ g0 sz) := by
  refine cMetM (Qc := fun z => QC D κ ρ z g0 q none) (ret := none) (by decide) rfl rfl (Nat.le_of_ble_eq_true rfl) ?_
  intro p e s m below meth c ls C hr hlk hw hl
  obtain ⟨g, eg⟩ : ∃ x, x = g0 := ⟨_, rfl⟩
  have hw : WC D κ ρ (AC ρ g0 s.heap.size) s.heap g σ s s.heap [] := by rw [eg]; exact hw
  have hg : sub g0 g := by rw [eg]; exact sub_rf g0
  have hl : lv_has ls 6 [(0, .ref (ρ 599))] := hl
  unfold fS_findLeastPrices at h
  have hx := C.1
  have hb := C.2.1
  have hts := C.2.2.2.2
  have hown := C.2.2.2.1
  refine lv_iconst (v := (0 : Int32)) hx hb dX5_findLeastPrices_0 (by decide) ?_
  refine lv_istore_n (lv' := [(1, .int (0 : Int32)), (0, .ref (ρ 599))]) hx hb dX5_findLeastPrices_1 rfl hl (by decide) rfl (fun ls hl => ?_)
  exact wS_findLeastPrices_L2 C hr hlk  _ _ _ _ _ _ _ h hw hg (lv_sub hl [1, 0] rfl)
def fS_find_L64 (N : Nat) : Nat → CSt → Int32 → Int32 → Option (CSt)
  | 0, _, _, _ => none
  | n + 1, σ, x2, x3 => (if (240 : Int32) ≤ x3 then (fS_setBorder N σ (0 : Int32) (0 : Int64) (1 : Int64)).bind fun r_203 => (fS_setBorder N r_203 (r_203.1 500) (4 : Int64) (1 : Int64)).bind fun r_215 => (fS_findLeastPrices N r_215).bind fun r_219 => some r_219 else (if (σ.1 500) ≤ (x2 + (1 : Int32)) then (fS_setBorder N σ (0 : Int32) (0 : Int64) (1 : Int64)).bind fun r_203 => (fS_setBorder N r_203 (r_203.1 500) (4 : Int64) (1 : Int64)).bind fun r_215 => (fS_findLeastPrices N r_215).bind fun r_219 => some r_219 else (fS_planOf N σ x2).bind fun r_83 => (fS_planOf N σ (x2 + (1 : Int32))).bind fun r_92 => on r_83 ((fS_setBorder N σ (0 : Int32) (0 : Int64) (1 : Int64)).bind fun r_203 => (fS_setBorder N r_203 (r_203.1 500) (4 : Int64) (1 : Int64)).bind fun r_215 => (fS_findLeastPrices N r_215).bind fun r_219 => some r_219) (fun x_99 => on r_92 ((fS_setBorder N σ (0 : Int32) (0 : Int64) (1 : Int64)).bind fun r_203 => (fS_setBorder N r_203 (r_203.1 500) (4 : Int64) (1 : Int64)).bind fun r_215 => (fS_findLeastPrices N r_215).bind fun r_219 => some r_219) (fun x_104 => (fH_cheapest N σ (x_104.2.2.1 - x_99.2.2.1) (x_99.2.2.2.1 - x_104.2.2.2.1) (-1 : Int32)).bind fun r_145 => (fP_isDearer N r_145.2 x_99 r_145.1 (x_104.2.2.1 - x_99.2.2.1) (x_99.2.2.2.1 - x_104.2.2.2.1)).bind fun r_158 => (if r_158 = 0 then (fS_setBorder N r_145.2 (x2 + (1 : Int32)) (x_104.2.2.1 - x_99.2.2.1) (x_99.2.2.2.1 - x_104.2.2.2.1)).bind fun r_187 => fS_find_L64 N n r_187 (x2 + 1) (x3 + 1) else (fS_insert N r_145.2 (x2 + (1 : Int32)) r_145.1).bind fun r_170 => (if r_170.1 = 0 then (fS_setBorder N r_170.2 (x2 + (1 : Int32)) (x_104.2.2.1 - x_99.2.2.1) (x_99.2.2.2.1 - x_104.2.2.2.1)).bind fun r_187 => fS_find_L64 N n r_187 (x2 + 1) (x3 + 1) else fS_find_L64 N n r_170.2 x2 (x3 + 1)))))))
def fS_find_J60 (N : Nat) (σ : CSt) : Option (CSt) := fS_find_L64 N 241 σ (0 : Int32) (0 : Int32)
def fS_find (N : Nat) (σ : CSt) : Option (CSt) := (fH_cheapest N (cI σ 500 (0 : Int32)) (0 : Int64) (1 : Int64) (-1 : Int32)).bind fun r_14 => (fS_insert N r_14.2 (0 : Int32) r_14.1).bind fun r_17 => (fH_cheapest N r_17.2 (4 : Int64) (1 : Int64) (1 : Int32)).bind fun r_30 => on r_30.1 (fS_find_J60 N r_30.2) (fun x_35 => (fS_planOf N r_30.2 (0 : Int32)).bind fun r_41 => (fP_hasLineOf N r_30.2 x_35 r_41).bind fun r_44 => (if r_44 = 0 then (fS_insert N r_30.2 (r_30.2.1 500) (some x_35)).bind fun r_56 => fS_find_J60 N r_56.2 else fS_find_J60 N r_30.2))
set_option maxRecDepth 100000 in
set_option maxHeartbeats 4000000 in
theorem wS_find_L64 {p : Program} {l : Launch} {e : Env} {s : State} {m : MethodId} {args : Array Value} {below : List Frame} {meth : Method} {c : Code} {D : va_G} {κ : Nat → ClassId} {ρ : Nat → Nat} {g0 : Gh} (C : CallFix p m c cX5_find 11 s args wsX5_find RX5) (hr : meth.sig.returnType = none) (hlk : meth.locks = false) {N : Nat} {q : CSt} : ∀ (n : Nat) (σ : CSt) (x2 : Int32) (x3 : Int32) (g : Gh) (H : Heap) (locs : List Loc) (ce : Nat) (sl : Nat) (ls : Array Slot), fS_find_L64 N n σ x2 x3 = some q → WC D κ ρ (AC ρ g0 s.heap.size) s.heap g σ s H locs → sub g0 g → ce + n ≤ 243 ∧ sl + 5 * n ≤ 1215 → lv_has ls 11 [(0, .ref (ρ 599)), (2, .int x2), (3, .int x3)] → W p l e ({ frames := 5, cells := 243, slots := 1215, locals := 130 } : Room) s m args below meth c H locs ce sl (MQ below (QC D κ ρ s.heap.size g0 q none) args s 243 1215 (AC ρ g0 s.heap.size)) (F0 m 64 ls []) := by
  have hx := C.1
  have hb := C.2.1
  have hts := C.2.2.2.2
  have hown := C.2.2.2.1
  have k_30 := hts (.fieldLink RX5 30 "PlanCabinet$Spans" "chooser" "LPlanCabinet$Chooser;") (by decide +kernel)
  have k_34 := hts (.fieldLink RX5 34 "PlanCabinet$Spans" "count" "I") (by decide +kernel)
  have k_50 := hts (.constantLong RX5 50 (4)) (by decide +kernel)
  have k_60 := hts (.fieldLink RX5 60 "PlanCabinet$Plan" "a" "J") (by decide +kernel)
  have k_64 := hts (.fieldLink RX5 64 "PlanCabinet$Plan" "b" "J") (by decide +kernel)
  have in_1 : ∀ w ∈ wsX10, w ∈ wsX5_find := by decide +kernel
  have in_5 : ∀ w ∈ wsX50, w ∈ wsX5_find := by decide +kernel
  intro n
  induction n with
  | zero =>
    intro σ x2 x3 g H locs ce sl ls h hw hg hc hl
    rw [fS_find_L64] at h
    cases h
  | succ n ih =>
    intro σ x2 x3 g H locs ce sl ls h hw hg hc hl
    rw [fS_find_L64] at h
    refine lv_iload_n hx hb dX5_find_64 rfl (lv_at hl 2 rfl) ?_
    refine lv_sipush (v := (240 : Int32)) hx hb dX5_find_65 (by decide) ?_
    refine lv_icmp_ge (tgt := 199) hx hb dX5_find_68 (by decide) (fun c_68 => ?_) (fun c_68 => ?_)
    · have h := zz_pos c_68 h
      refine lv_aload_n hx hb dX5_find_199 rfl (lv_at hl 0 rfl) ?_
      refine lv_iconst (v := (0 : Int32)) hx hb dX5_find_200 (by decide) ?_
      refine lv_lconst (v := (0 : Int64)) hx hb dX5_find_201 (by decide) ?_
      refine lv_lconst (v := (1 : Int64)) hx hb dX5_find_202 (by decide) ?_
      obtain ⟨r_203, e_203, h⟩ := bnd_of h
      refine callC (va_runV (As := [.int (0 : Int32), .long (0 : Int64), .long (1 : Int64)]) C (cS_setBorder e_203) (cwV 3 hts gX5_find_X5_setBorder rfl rfl rfl (by decide +kernel) ⟨by decide, by decide⟩) (preM (recv_599 hw.1) hw) rfl rfl hl.1 rfl (lv_room (Nat.le_of_ble_eq_true rfl)) dX5_find_203 ⟨by show _ ≤ 243; omega, by show _ ≤ 1215; omega⟩) hw (fun _ h => Or.inr h) (fun g H locs hs hw => ?_)
      have hg := sub_tr hg hs
      refine lv_aload_n hx hb dX5_find_206 rfl (lv_at hl 0 rfl) ?_
      refine lv_aload_n hx hb dX5_find_207 rfl (lv_at hl 0 rfl) ?_
      refine cG_500 C in_5 hw.1 k_34 dX5_find_208 ?_
      refine lv_ldc2 hx hb hown k_50 dX5_find_211 ?_
      refine lv_lconst (v := (1 : Int64)) hx hb dX5_find_214 (by decide) ?_
      obtain ⟨r_215, e_215, h⟩ := bnd_of h
      refine callC (va_runV (As := [.int (r_203.1 500), .long (4 : Int64), .long (1 : Int64)]) C (cS_setBorder e_215) (cwV 3 hts gX5_find_X5_setBorder rfl rfl rfl (by decide +kernel) ⟨by decide, by decide⟩) (preM (recv_599 hw.1) hw) rfl rfl hl.1 rfl (lv_room (Nat.le_of_ble_eq_true rfl)) dX5_find_215 ⟨by show _ ≤ 243; omega, by show _ ≤ 1215; omega⟩) hw (fun _ h => Or.inr h) (fun g H locs hs hw => ?_)
      have hg := sub_tr hg hs
      refine lv_aload_n hx hb dX5_find_218 rfl (lv_at hl 0 rfl) ?_
      obtain ⟨r_219, e_219, h⟩ := bnd_of h
      refine callC (va_runV (As := []) C (cS_findLeastPrices e_219) (cwV 0 hts gX5_find_X5_findLeastPrices rfl rfl rfl (by decide +kernel) ⟨by decide, by decide⟩) (preM (recv_599 hw.1) hw) rfl rfl hl.1 rfl (lv_room (Nat.le_of_ble_eq_true rfl)) dX5_find_219 ⟨by show _ ≤ 243; omega, by show _ ≤ 1215; omega⟩) hw (fun _ h => Or.inr h) (fun g H locs hs hw => ?_)
      have hg := sub_tr hg hs
      refine W.widen (k := 243) (n := 1215) (by omega) (by omega) ?_
      exact W.vret hx hb hr (fun t ht hW => QC.of rfl (by rw [← some_of h]; exact hw) hg ht hW) hw.2.2.2.2 dX5_find_222
    · have h := zz_neg c_68 h
      refine lv_iload_n hx hb dX5_find_71 rfl (lv_at hl 1 rfl) ?_
      refine lv_iconst (v := (1 : Int32)) hx hb dX5_find_72 (by decide) ?_
      refine lv_iadd hx hb dX5_find_73 ?_
      refine lv_aload_n hx hb dX5_find_74 rfl (lv_at hl 0 rfl) ?_
      refine cG_500 C in_5 hw.1 k_34 dX5_find_75 ?_
      refine lv_icmp_ge (tgt := 199) hx hb dX5_find_78 (by decide) (fun c_78 => ?_) (fun c_78 => ?_)
      · have h := zz_pos c_78 h
        refine lv_aload_n hx hb dX5_find_199 rfl (lv_at hl 0 rfl) ?_
        refine lv_iconst (v := (0 : Int32)) hx hb dX5_find_200 (by decide) ?_
        refine lv_lconst (v := (0 : Int64)) hx hb dX5_find_201 (by decide) ?_
        refine lv_lconst (v := (1 : Int64)) hx hb dX5_find_202 (by decide) ?_
        obtain ⟨r_203, e_203, h⟩ := bnd_of h
        refine callC (va_runV (As := [.int (0 : Int32), .long (0 : Int64), .long (1 : Int64)]) C (cS_setBorder e_203) (cwV 3 hts gX5_find_X5_setBorder rfl rfl rfl (by decide +kernel) ⟨by decide, by decide⟩) (preM (recv_599 hw.1) hw) rfl rfl hl.1 rfl (lv_room (Nat.le_of_ble_eq_true rfl)) dX5_find_203 ⟨by show _ ≤ 243; omega, by show _ ≤ 1215; omega⟩) hw (fun _ h => Or.inr h) (fun g H locs hs hw => ?_)
        have hg := sub_tr hg hs
        refine lv_aload_n hx hb dX5_find_206 rfl (lv_at hl 0 rfl) ?_
        refine lv_aload_n hx hb dX5_find_207 rfl (lv_at hl 0 rfl) ?_
        refine cG_500 C in_5 hw.1 k_34 dX5_find_208 ?_
        refine lv_ldc2 hx hb hown k_50 dX5_find_211 ?_
        refine lv_lconst (v := (1 : Int64)) hx hb dX5_find_214 (by decide) ?_
        obtain ⟨r_215, e_215, h⟩ := bnd_of h
        refine callC (va_runV (As := [.int (r_203.1 500), .long (4 : Int64), .long (1 : Int64)]) C (cS_setBorder e_215) (cwV 3 hts gX5_find_X5_setBorder rfl rfl rfl (by decide +kernel) ⟨by decide, by decide⟩) (preM (recv_599 hw.1) hw) rfl rfl hl.1 rfl (lv_room (Nat.le_of_ble_eq_true rfl)) dX5_find_215 ⟨by show _ ≤ 243; omega, by show _ ≤ 1215; omega⟩) hw (fun _ h => Or.inr h) (fun g H locs hs hw => ?_)
        have hg := sub_tr hg hs
        refine lv_aload_n hx hb dX5_find_218 rfl (lv_at hl 0 rfl) ?_
        obtain ⟨r_219, e_219, h⟩ := bnd_of h
        refine callC (va_runV (As := []) C (cS_findLeastPrices e_219) (cwV 0 hts gX5_find_X5_findLeastPrices rfl rfl rfl (by decide +kernel) ⟨by decide, by decide⟩) (preM (recv_599 hw.1) hw) rfl rfl hl.1 rfl (lv_room (Nat.le_of_ble_eq_true rfl)) dX5_find_219 ⟨by show _ ≤ 243; omega, by show _ ≤ 1215; omega⟩) hw (fun _ h => Or.inr h) (fun g H locs hs hw => ?_)
        have hg := sub_tr hg hs
        refine W.widen (k := 243) (n := 1215) (by omega) (by omega) ?_
        exact W.vret hx hb hr (fun t ht hW => QC.of rfl (by rw [← some_of h]; exact hw) hg ht hW) hw.2.2.2.2 dX5_find_222
      · have h := zz_neg c_78 h
        refine lv_aload_n hx hb dX5_find_81 rfl (lv_at hl 0 rfl) ?_
        refine lv_iload_n hx hb dX5_find_82 rfl (lv_at hl 1 rfl) ?_
        obtain ⟨r_83, e_83, h⟩ := bnd_of h
        refine callPq (W.runV (As := [.int x2]) C (cS_planOf e_83) (cwV 1 hts gX5_find_X5_planOf rfl rfl rfl (by decide +kernel) ⟨by decide, by decide⟩) (preR (recv_599 hw.1) hw.1) rfl rfl hl.1 rfl (lv_room (Nat.le_of_ble_eq_true rfl)) dX5_find_83 ⟨by show _ ≤ 243; omega, by show _ ≤ 1215; omega⟩) (fun z_83 hp_83 => ?_)
        refine cAstore (lv' := [(4, va_rf z_83), (0, .ref (ρ 599)), (2, .int x2), (3, .int x3)]) hx hb dX5_find_86 hl (by decide) rfl (fun ls hl => ?_)
        refine lv_aload_n hx hb dX5_find_88 rfl (lv_at hl 1 rfl) ?_
        refine lv_iload_n hx hb dX5_find_89 rfl (lv_at hl 2 rfl) ?_
        refine lv_iconst (v := (1 : Int32)) hx hb dX5_find_90 (by decide) ?_
        refine lv_iadd hx hb dX5_find_91 ?_
        obtain ⟨r_92, e_92, h⟩ := bnd_of h
        refine callPq (W.runV (As := [.int (x2 + (1 : Int32))]) C (cS_planOf e_92) (cwV 1 hts gX5_find_X5_planOf rfl rfl rfl (by decide +kernel) ⟨by decide, by decide⟩) (preR (recv_599 hw.1) hw.1) rfl rfl hl.1 rfl (lv_room (Nat.le_of_ble_eq_true rfl)) dX5_find_92 ⟨by show _ ≤ 243; omega, by show _ ≤ 1215; omega⟩) (fun z_92 hp_92 => ?_)
        refine cAstore (lv' := [(5, va_rf z_92), (4, va_rf z_83), (0, .ref (ρ 599)), (2, .int x2), (3, .int x3)]) hx hb dX5_find_95 hl (by decide) (by cases z_83 <;> rfl) (fun ls hl => ?_)
        refine cAload hx hb dX5_find_97 (lv_at hl 1 rfl) ?_
        refine cNull (tgt := 199) hx hb hp_83 dX5_find_99 (by decide) (fun ez_99 ex_99 => ?_) (fun z_99 x_99 ez_99 ex_99 hq_99 => ?_)
        · have h := on_none ex_99 h
          subst ez_99
          have hl : lv_has ls 11 [(5, va_rf z_92), (4, .null), (0, .ref (ρ 599)), (2, .int x2), (3, .int x3)] := hl
          refine lv_aload_n hx hb dX5_find_199 rfl (lv_at hl 2 rfl) ?_
          refine lv_iconst (v := (0 : Int32)) hx hb dX5_find_200 (by decide) ?_
          refine lv_lconst (v := (0 : Int64)) hx hb dX5_find_201 (by decide) ?_
          refine lv_lconst (v := (1 : Int64)) hx hb dX5_find_202 (by decide) ?_
          obtain ⟨r_203, e_203, h⟩ := bnd_of h
          refine callC (va_runV (As := [.int (0 : Int32), .long (0 : Int64), .long (1 : Int64)]) C (cS_setBorder e_203) (cwV 3 hts gX5_find_X5_setBorder rfl rfl rfl (by decide +kernel) ⟨by decide, by decide⟩) (preM (recv_599 hw.1) hw) rfl rfl hl.1 rfl (lv_room (Nat.le_of_ble_eq_true rfl)) dX5_find_203 ⟨by show _ ≤ 243; omega, by show _ ≤ 1215; omega⟩) hw (fun _ h => Or.inr h) (fun g H locs hs hw => ?_)
          have hg := sub_tr hg hs
          have hp_92 := pr_mono hs hp_92
          refine lv_aload_n hx hb dX5_find_206 rfl (lv_at hl 2 rfl) ?_
          refine lv_aload_n hx hb dX5_find_207 rfl (lv_at hl 2 rfl) ?_
          refine cG_500 C in_5 hw.1 k_34 dX5_find_208 ?_
          refine lv_ldc2 hx hb hown k_50 dX5_find_211 ?_
          refine lv_lconst (v := (1 : Int64)) hx hb dX5_find_214 (by decide) ?_
          obtain ⟨r_215, e_215, h⟩ := bnd_of h
          refine callC (va_runV (As := [.int (r_203.1 500), .long (4 : Int64), .long (1 : Int64)]) C (cS_setBorder e_215) (cwV 3 hts gX5_find_X5_setBorder rfl rfl rfl (by decide +kernel) ⟨by decide, by decide⟩) (preM (recv_599 hw.1) hw) rfl rfl hl.1 rfl (lv_room (Nat.le_of_ble_eq_true rfl)) dX5_find_215 ⟨by show _ ≤ 243; omega, by show _ ≤ 1215; omega⟩) hw (fun _ h => Or.inr h) (fun g H locs hs hw => ?_)
          have hg := sub_tr hg hs
          have hp_92 := pr_mono hs hp_92
          refine lv_aload_n hx hb dX5_find_218 rfl (lv_at hl 2 rfl) ?_
          obtain ⟨r_219, e_219, h⟩ := bnd_of h
          refine callC (va_runV (As := []) C (cS_findLeastPrices e_219) (cwV 0 hts gX5_find_X5_findLeastPrices rfl rfl rfl (by decide +kernel) ⟨by decide, by decide⟩) (preM (recv_599 hw.1) hw) rfl rfl hl.1 rfl (lv_room (Nat.le_of_ble_eq_true rfl)) dX5_find_219 ⟨by show _ ≤ 243; omega, by show _ ≤ 1215; omega⟩) hw (fun _ h => Or.inr h) (fun g H locs hs hw => ?_)
          have hg := sub_tr hg hs
          have hp_92 := pr_mono hs hp_92
          refine W.widen (k := 243) (n := 1215) (by omega) (by omega) ?_
          exact W.vret hx hb hr (fun t ht hW => QC.of rfl (by rw [← some_of h]; exact hw) hg ht hW) hw.2.2.2.2 dX5_find_222
        · have h := on_some ex_99 h
          subst ez_99
          have hl : lv_has ls 11 [(5, va_rf z_92), (4, .ref z_99), (0, .ref (ρ 599)), (2, .int x2), (3, .int x3)] := hl
          refine cAload hx hb dX5_find_102 (lv_at hl 0 rfl) ?_
          refine cNonnull (tgt := 110) hx hb hp_92 dX5_find_104 (by decide) (fun ez_104 ex_104 => ?_) (fun z_104 x_104 ez_104 ex_104 hq_104 => ?_)
          · have h := on_none ex_104 h
            subst ez_104
            have hl : lv_has ls 11 [(5, .null), (4, .ref z_99), (0, .ref (ρ 599)), (2, .int x2), (3, .int x3)] := hl
            refine lv_goto (tgt := 199) hx hb dX5_find_107 (by decide) ?_
            refine lv_aload_n hx hb dX5_find_199 rfl (lv_at hl 2 rfl) ?_
            refine lv_iconst (v := (0 : Int32)) hx hb dX5_find_200 (by decide) ?_
            refine lv_lconst (v := (0 : Int64)) hx hb dX5_find_201 (by decide) ?_
            refine lv_lconst (v := (1 : Int64)) hx hb dX5_find_202 (by decide) ?_
            obtain ⟨r_203, e_203, h⟩ := bnd_of h
            refine callC (va_runV (As := [.int (0 : Int32), .long (0 : Int64), .long (1 : Int64)]) C (cS_setBorder e_203) (cwV 3 hts gX5_find_X5_setBorder rfl rfl rfl (by decide +kernel) ⟨by decide, by decide⟩) (preM (recv_599 hw.1) hw) rfl rfl hl.1 rfl (lv_room (Nat.le_of_ble_eq_true rfl)) dX5_find_203 ⟨by show _ ≤ 243; omega, by show _ ≤ 1215; omega⟩) hw (fun _ h => Or.inr h) (fun g H locs hs hw => ?_)
            have hg := sub_tr hg hs
            have hq_99 := hs _ hq_99
            refine lv_aload_n hx hb dX5_find_206 rfl (lv_at hl 2 rfl) ?_
            refine lv_aload_n hx hb dX5_find_207 rfl (lv_at hl 2 rfl) ?_
            refine cG_500 C in_5 hw.1 k_34 dX5_find_208 ?_
            refine lv_ldc2 hx hb hown k_50 dX5_find_211 ?_
            refine lv_lconst (v := (1 : Int64)) hx hb dX5_find_214 (by decide) ?_
            obtain ⟨r_215, e_215, h⟩ := bnd_of h
            refine callC (va_runV (As := [.int (r_203.1 500), .long (4 : Int64), .long (1 : Int64)]) C (cS_setBorder e_215) (cwV 3 hts gX5_find_X5_setBorder rfl rfl rfl (by decide +kernel) ⟨by decide, by decide⟩) (preM (recv_599 hw.1) hw) rfl rfl hl.1 rfl (lv_room (Nat.le_of_ble_eq_true rfl)) dX5_find_215 ⟨by show _ ≤ 243; omega, by show _ ≤ 1215; omega⟩) hw (fun _ h => Or.inr h) (fun g H locs hs hw => ?_)
            have hg := sub_tr hg hs
            have hq_99 := hs _ hq_99
            refine lv_aload_n hx hb dX5_find_218 rfl (lv_at hl 2 rfl) ?_
            obtain ⟨r_219, e_219, h⟩ := bnd_of h
            refine callC (va_runV (As := []) C (cS_findLeastPrices e_219) (cwV 0 hts gX5_find_X5_findLeastPrices rfl rfl rfl (by decide +kernel) ⟨by decide, by decide⟩) (preM (recv_599 hw.1) hw) rfl rfl hl.1 rfl (lv_room (Nat.le_of_ble_eq_true rfl)) dX5_find_219 ⟨by show _ ≤ 243; omega, by show _ ≤ 1215; omega⟩) hw (fun _ h => Or.inr h) (fun g H locs hs hw => ?_)
            have hg := sub_tr hg hs
            have hq_99 := hs _ hq_99
            refine W.widen (k := 243) (n := 1215) (by omega) (by omega) ?_
            exact W.vret hx hb hr (fun t ht hW => QC.of rfl (by rw [← some_of h]; exact hw) hg ht hW) hw.2.2.2.2 dX5_find_222
          · have h := on_some ex_104 h
            subst ez_104
            have hl : lv_has ls 11 [(5, .ref z_104), (4, .ref z_99), (0, .ref (ρ 599)), (2, .int x2), (3, .int x3)] := hl
            refine lv_aload hx hb dX5_find_110 (lv_at hl 0 rfl) ?_
            refine cGP_2 C in_1 hw.1 hq_104 k_60 dX5_find_112 ?_
            refine lv_aload hx hb dX5_find_115 (lv_at hl 1 rfl) ?_
            refine cGP_2 C in_1 hw.1 hq_99 k_60 dX5_find_117 ?_
            refine lv_lsub hx hb dX5_find_120 ?_
            refine lv_lstore (lv' := [(6, .long (x_104.2.2.1 - x_99.2.2.1)), (5, .ref z_104), (4, .ref z_99), (0, .ref (ρ 599)), (2, .int x2), (3, .int x3)]) hx hb dX5_find_121 hl (by decide) rfl (fun ls hl => ?_)
            refine lv_aload hx hb dX5_find_123 (lv_at hl 2 rfl) ?_
            refine cGP_3 C in_1 hw.1 hq_99 k_64 dX5_find_125 ?_
            refine lv_aload hx hb dX5_find_128 (lv_at hl 1 rfl) ?_
            refine cGP_3 C in_1 hw.1 hq_104 k_64 dX5_find_130 ?_
            refine lv_lsub hx hb dX5_find_133 ?_
            refine lv_lstore (lv' := [(8, .long (x_99.2.2.2.1 - x_104.2.2.2.1)), (6, .long (x_104.2.2.1 - x_99.2.2.1)), (5, .ref z_104), (4, .ref z_99), (0, .ref (ρ 599)), (2, .int x2), (3, .int x3)]) hx hb dX5_find_134 hl (by decide) rfl (fun ls hl => ?_)
            refine lv_aload_n hx hb dX5_find_136 rfl (lv_at hl 4 rfl) ?_
            refine cG_501 C in_5 hw.1 k_30 dX5_find_137 ?_
            refine lv_lload hx hb dX5_find_140 (lv_at hl 1 rfl) ?_
            refine lv_lload hx hb dX5_find_142 (lv_at hl 0 rfl) ?_
            refine lv_iconst (v := (-1 : Int32)) hx hb dX5_find_144 (by decide) ?_
            obtain ⟨r_145, e_145, h⟩ := bnd_of h
            refine callCq (va_runV (As := [.long (x_104.2.2.1 - x_99.2.2.1), .long (x_99.2.2.2.1 - x_104.2.2.2.1), .int (-1 : Int32)]) C (cH_cheapest e_145) (cwV 3 hts gX5_find_X0_cheapest rfl rfl rfl (by decide +kernel) ⟨by decide, by decide⟩) (preM (recv_99 hw.1) hw) rfl rfl hl.1 rfl (lv_room (Nat.le_of_ble_eq_true rfl)) dX5_find_145 ⟨by show _ ≤ 243; omega, by show _ ≤ 1215; omega⟩) hw (fun _ h => Or.inr h) (fun g z_145 H locs hs hp_145 hw => ?_)
            have hg := sub_tr hg hs
            have hq_104 := hs _ hq_104
            have hq_99 := hs _ hq_99
            obtain ⟨ce, ec_145⟩ : ∃ x, x = ce + 1 := ⟨_, rfl⟩
            obtain ⟨sl, es_145⟩ : ∃ x, x = sl + 5 := ⟨_, rfl⟩
            rw [← ec_145, ← es_145]
            refine cAstore (lv' := [(10, va_rf z_145), (8, .long (x_99.2.2.2.1 - x_104.2.2.2.1)), (6, .long (x_104.2.2.1 - x_99.2.2.1)), (5, .ref z_104), (4, .ref z_99), (0, .ref (ρ 599)), (2, .int x2), (3, .int x3)]) hx hb dX5_find_148 hl (by decide) rfl (fun ls hl => ?_)
            refine lv_aload hx hb dX5_find_150 (lv_at hl 4 rfl) ?_
            refine cAload hx hb dX5_find_152 (lv_at hl 0 rfl) ?_
            refine lv_lload hx hb dX5_find_154 (lv_at hl 2 rfl) ?_
            refine lv_lload hx hb dX5_find_156 (lv_at hl 1 rfl) ?_
            obtain ⟨r_158, e_158, h⟩ := bnd_of h
            refine callP (W.runV (As := [va_rf z_145, .long (x_104.2.2.1 - x_99.2.2.1), .long (x_99.2.2.2.1 - x_104.2.2.2.1)]) C (cP_isDearer e_158 hq_99 hp_145) (cwV 3 hts gX5_find_X1_isDearer rfl rfl rfl (by decide +kernel) ⟨by decide, by decide⟩) (preR (recvP hw.1 hq_99) hw.1) rfl rfl hl.1 rfl (lv_room (Nat.le_of_ble_eq_true rfl)) dX5_find_158 ⟨by show _ ≤ 243; omega, by show _ ≤ 1215; omega⟩) ?_
            refine lv_if_eq (tgt := 179) hx hb dX5_find_161 (by decide) (fun c_161 => ?_) (fun c_161 => ?_)
            · have h := zz_pos c_161 h
              refine lv_aload_n hx hb dX5_find_179 rfl (lv_at hl 5 rfl) ?_
              refine lv_iload_n hx hb dX5_find_180 rfl (lv_at hl 6 rfl) ?_
              refine lv_iconst (v := (1 : Int32)) hx hb dX5_find_181 (by decide) ?_
              refine lv_iadd hx hb dX5_find_182 ?_
              refine lv_lload hx hb dX5_find_183 (lv_at hl 2 rfl) ?_
              refine lv_lload hx hb dX5_find_185 (lv_at hl 1 rfl) ?_
              obtain ⟨r_187, e_187, h⟩ := bnd_of h
              refine callC (va_runV (As := [.int (x2 + (1 : Int32)), .long (x_104.2.2.1 - x_99.2.2.1), .long (x_99.2.2.2.1 - x_104.2.2.2.1)]) C (cS_setBorder e_187) (cwV 3 hts gX5_find_X5_setBorder rfl rfl rfl (by decide +kernel) ⟨by decide, by decide⟩) (preM (recv_599 hw.1) hw) rfl rfl hl.1 rfl (lv_room (Nat.le_of_ble_eq_true rfl)) dX5_find_187 ⟨by show _ ≤ 243; omega, by show _ ≤ 1215; omega⟩) hw (fun _ h => Or.inr h) (fun g H locs hs hw => ?_)
              have hg := sub_tr hg hs
              have hp_145 := pr_mono hs hp_145
              have hq_104 := hs _ hq_104
              have hq_99 := hs _ hq_99
              refine lv_iinc (v := (x2 + 1)) (lv' := [(2, .int (x2 + 1)), (10, va_rf z_145), (8, .long (x_99.2.2.2.1 - x_104.2.2.2.1)), (6, .long (x_104.2.2.1 - x_99.2.2.1)), (5, .ref z_104), (4, .ref z_99), (0, .ref (ρ 599)), (3, .int x3)]) hx hb dX5_find_190 hl (k := 6) rfl rfl (by decide) rfl (fun ls hl => ?_)
              refine lv_iinc (v := (x3 + 1)) (lv' := [(3, .int (x3 + 1)), (2, .int (x2 + 1)), (10, va_rf z_145), (8, .long (x_99.2.2.2.1 - x_104.2.2.2.1)), (6, .long (x_104.2.2.1 - x_99.2.2.1)), (5, .ref z_104), (4, .ref z_99), (0, .ref (ρ 599))]) hx hb dX5_find_193 hl (k := 7) rfl rfl (by decide) rfl (fun ls hl => ?_)
              refine lv_goto (tgt := 64) hx hb dX5_find_196 (by decide) ?_
              exact ih _ _ _ _ _ _ _ _ _ h hw hg (by omega) (lv_sub hl [7, 1, 0] rfl)
            · have h := zz_neg c_161 h
              refine lv_aload_n hx hb dX5_find_164 rfl (lv_at hl 5 rfl) ?_
              refine lv_iload_n hx hb dX5_find_165 rfl (lv_at hl 6 rfl) ?_
              refine lv_iconst (v := (1 : Int32)) hx hb dX5_find_166 (by decide) ?_
              refine lv_iadd hx hb dX5_find_167 ?_
              refine cAload hx hb dX5_find_168 (lv_at hl 0 rfl) ?_
              obtain ⟨r_170, e_170, h⟩ := bnd_of h
              refine callC (va_runV (As := [.int (x2 + (1 : Int32)), va_rf z_145]) C (cS_insert e_170 hp_145) (cwV 2 hts gX5_find_X5_insert rfl rfl rfl (by decide +kernel) ⟨by decide, by decide⟩) (preM (recv_599 hw.1) hw) rfl rfl hl.1 rfl (lv_room (Nat.le_of_ble_eq_true rfl)) dX5_find_170 ⟨by show _ ≤ 243; omega, by show _ ≤ 1215; omega⟩) hw (fun _ h => Or.inr h) (fun g H locs hs hw => ?_)
              have hg := sub_tr hg hs
              have hp_145 := pr_mono hs hp_145
              have hq_104 := hs _ hq_104
              have hq_99 := hs _ hq_99
              refine lv_if_eq (tgt := 179) hx hb dX5_find_173 (by decide) (fun c_173 => ?_) (fun c_173 => ?_)
              · have h := zz_pos c_173 h
                refine lv_aload_n hx hb dX5_find_179 rfl (lv_at hl 5 rfl) ?_
                refine lv_iload_n hx hb dX5_find_180 rfl (lv_at hl 6 rfl) ?_
                refine lv_iconst (v := (1 : Int32)) hx hb dX5_find_181 (by decide) ?_
                refine lv_iadd hx hb dX5_find_182 ?_
                refine lv_lload hx hb dX5_find_183 (lv_at hl 2 rfl) ?_
                refine lv_lload hx hb dX5_find_185 (lv_at hl 1 rfl) ?_
                obtain ⟨r_187, e_187, h⟩ := bnd_of h
                refine callC (va_runV (As := [.int (x2 + (1 : Int32)), .long (x_104.2.2.1 - x_99.2.2.1), .long (x_99.2.2.2.1 - x_104.2.2.2.1)]) C (cS_setBorder e_187) (cwV 3 hts gX5_find_X5_setBorder rfl rfl rfl (by decide +kernel) ⟨by decide, by decide⟩) (preM (recv_599 hw.1) hw) rfl rfl hl.1 rfl (lv_room (Nat.le_of_ble_eq_true rfl)) dX5_find_187 ⟨by show _ ≤ 243; omega, by show _ ≤ 1215; omega⟩) hw (fun _ h => Or.inr h) (fun g H locs hs hw => ?_)
                have hg := sub_tr hg hs
                have hp_145 := pr_mono hs hp_145
                have hq_104 := hs _ hq_104
                have hq_99 := hs _ hq_99
                refine lv_iinc (v := (x2 + 1)) (lv' := [(2, .int (x2 + 1)), (10, va_rf z_145), (8, .long (x_99.2.2.2.1 - x_104.2.2.2.1)), (6, .long (x_104.2.2.1 - x_99.2.2.1)), (5, .ref z_104), (4, .ref z_99), (0, .ref (ρ 599)), (3, .int x3)]) hx hb dX5_find_190 hl (k := 6) rfl rfl (by decide) rfl (fun ls hl => ?_)
                refine lv_iinc (v := (x3 + 1)) (lv' := [(3, .int (x3 + 1)), (2, .int (x2 + 1)), (10, va_rf z_145), (8, .long (x_99.2.2.2.1 - x_104.2.2.2.1)), (6, .long (x_104.2.2.1 - x_99.2.2.1)), (5, .ref z_104), (4, .ref z_99), (0, .ref (ρ 599))]) hx hb dX5_find_193 hl (k := 7) rfl rfl (by decide) rfl (fun ls hl => ?_)
                refine lv_goto (tgt := 64) hx hb dX5_find_196 (by decide) ?_
                exact ih _ _ _ _ _ _ _ _ _ h hw hg (by omega) (lv_sub hl [7, 1, 0] rfl)
              · have h := zz_neg c_173 h
                refine lv_goto (tgt := 193) hx hb dX5_find_176 (by decide) ?_
                refine lv_iinc (v := (x3 + 1)) (lv' := [(3, .int (x3 + 1)), (10, va_rf z_145), (8, .long (x_99.2.2.2.1 - x_104.2.2.2.1)), (6, .long (x_104.2.2.1 - x_99.2.2.1)), (5, .ref z_104), (4, .ref z_99), (0, .ref (ρ 599)), (2, .int x2)]) hx hb dX5_find_193 hl (k := 7) rfl rfl (by decide) rfl (fun ls hl => ?_)
                refine lv_goto (tgt := 64) hx hb dX5_find_196 (by decide) ?_
                exact ih _ _ _ _ _ _ _ _ _ h hw hg (by omega) (lv_sub hl [6, 7, 0] rfl)
set_option maxRecDepth 100000 in
set_option maxHeartbeats 4000000 in
theorem wS_find_J60 {p : Program} {l : Launch} {e : Env} {s : State} {m : MethodId} {args : Array Value} {below : List Frame} {meth : Method} {c : Code} {D : va_G} {κ : Nat → ClassId} {ρ : Nat → Nat} {g0 : Gh} (C : CallFix p m c cX5_find 11 s args wsX5_find RX5) (hr : meth.sig.returnType = none) (hlk : meth.locks = false) {N : Nat} {q : CSt} : ∀ (σ : CSt) (g : Gh) (H : Heap) (locs : List Loc) (ce : Nat) (sl : Nat) (ls : Array Slot), fS_find_J60 N σ = some q → WC D κ ρ (AC ρ g0 s.heap.size) s.heap g σ s H locs → sub g0 g → ce ≤ 2 ∧ sl ≤ 10 → lv_has ls 11 [(0, .ref (ρ 599))] → W p l e ({ frames := 5, cells := 243, slots := 1215, locals := 130 } : Room) s m args below meth c H locs ce sl (MQ below (QC D κ ρ s.heap.size g0 q none) args s 243 1215 (AC ρ g0 s.heap.size)) (F0 m 60 ls []) := by
  have hx := C.1
  have hb := C.2.1
  have hts := C.2.2.2.2
  have hown := C.2.2.2.1
  intro σ g H locs ce sl ls h hw hg hc hl
  unfold fS_find_J60 at h
  refine lv_iconst (v := (0 : Int32)) hx hb dX5_find_60 (by decide) ?_
  refine lv_istore_n (lv' := [(2, .int (0 : Int32)), (0, .ref (ρ 599))]) hx hb dX5_find_61 rfl hl (by decide) rfl (fun ls hl => ?_)
  refine lv_iconst (v := (0 : Int32)) hx hb dX5_find_62 (by decide) ?_
  refine lv_istore_n (lv' := [(3, .int (0 : Int32)), (2, .int (0 : Int32)), (0, .ref (ρ 599))]) hx hb dX5_find_63 rfl hl (by decide) rfl (fun ls hl => ?_)
  exact wS_find_L64 C hr hlk  _ _ _ _ _ _ _ _ _ _ h hw hg (by omega) (lv_sub hl [2, 1, 0] rfl)
set_option maxRecDepth 100000 in
set_option maxHeartbeats 4000000 in
theorem cS_find {l : Launch} {D : va_G} {κ : Nat → ClassId} {ρ : Nat → Nat} {g0 : Gh} {sz : Nat} {N : Nat} {σ : CSt} {q : CSt} (h : fS_find N σ = some q) : Met l yX5_find wsX5_find ({ frames := 5, cells := 243, slots := 1215, locals := 130 } : Room) (va_Pc [.ref (ρ 599)] (PC D κ ρ sz g0 σ)) (QC D κ ρ sz g0 q none) 243 1215 (AC ρ g0 sz) := by
  refine cMetM (Qc := fun z => QC D κ ρ z g0 q none) (ret := none) (by decide) rfl rfl (Nat.le_of_ble_eq_true rfl) ?_
  intro p e s m below meth c ls C hr hlk hw hl
  obtain ⟨g, eg⟩ : ∃ x, x = g0 := ⟨_, rfl⟩
  have hw : WC D κ ρ (AC ρ g0 s.heap.size) s.heap g σ s s.heap [] := by rw [eg]; exact hw
  have hg : sub g0 g := by rw [eg]; exact sub_rf g0
  refine W.widen (k := 0) (n := 0) (Nat.le_refl _) (Nat.le_refl _) ?_
  obtain ⟨ce, ece⟩ : ∃ x : Nat, x = 0 := ⟨_, rfl⟩
  obtain ⟨sl, esl⟩ : ∃ x : Nat, x = 0 := ⟨_, rfl⟩
  refine W.widen (k := ce) (n := sl) (Nat.zero_le _) (Nat.zero_le _) ?_
  have hl : lv_has ls 11 [(0, .ref (ρ 599))] := hl
  unfold fS_find at h
  have hx := C.1
  have hb := C.2.1
  have hts := C.2.2.2.2
  have hown := C.2.2.2.1
  have k_30 := hts (.fieldLink RX5 30 "PlanCabinet$Spans" "chooser" "LPlanCabinet$Chooser;") (by decide +kernel)
  have k_34 := hts (.fieldLink RX5 34 "PlanCabinet$Spans" "count" "I") (by decide +kernel)
  have k_50 := hts (.constantLong RX5 50 (4)) (by decide +kernel)
  have in_5 : ∀ w ∈ wsX50, w ∈ wsX5_find := by decide +kernel
  refine lv_aload_n hx hb dX5_find_0 rfl (lv_at hl 0 rfl) ?_
  refine lv_iconst (v := (0 : Int32)) hx hb dX5_find_1 (by decide) ?_
  refine cPf_500 C in_5 hw k_34 dX5_find_2 (fun H locs hw => ?_)
  refine lv_aload_n hx hb dX5_find_5 rfl (lv_at hl 0 rfl) ?_
  refine lv_iconst (v := (0 : Int32)) hx hb dX5_find_6 (by decide) ?_
  refine lv_aload_n hx hb dX5_find_7 rfl (lv_at hl 0 rfl) ?_
  refine cG_501 C in_5 hw.1 k_30 dX5_find_8 ?_
  refine lv_lconst (v := (0 : Int64)) hx hb dX5_find_11 (by decide) ?_
  refine lv_lconst (v := (1 : Int64)) hx hb dX5_find_12 (by decide) ?_
  refine lv_iconst (v := (-1 : Int32)) hx hb dX5_find_13 (by decide) ?_
  obtain ⟨r_14, e_14, h⟩ := bnd_of h
  refine callCq (va_runV (As := [.long (0 : Int64), .long (1 : Int64), .int (-1 : Int32)]) C (cH_cheapest e_14) (cwV 3 hts gX5_find_X0_cheapest rfl rfl rfl (by decide +kernel) ⟨by decide, by decide⟩) (preM (recv_99 hw.1) hw) rfl rfl hl.1 rfl (lv_room (Nat.le_of_ble_eq_true rfl)) dX5_find_14 ⟨by show _ ≤ 243; omega, by show _ ≤ 1215; omega⟩) hw (fun _ h => Or.inr h) (fun g z_14 H locs hs hp_14 hw => ?_)
  have hg := sub_tr hg hs
  obtain ⟨ce, ec_14⟩ : ∃ x, x = ce + 1 := ⟨_, rfl⟩
  obtain ⟨sl, es_14⟩ : ∃ x, x = sl + 5 := ⟨_, rfl⟩
  rw [← ec_14, ← es_14]
  obtain ⟨r_17, e_17, h⟩ := bnd_of h
  refine callC (va_runV (As := [.int (0 : Int32), va_rf z_14]) C (cS_insert e_17 hp_14) (cwV 2 hts gX5_find_X5_insert rfl rfl rfl (by decide +kernel) ⟨by decide, by decide⟩) (preM (recv_599 hw.1) hw) rfl rfl hl.1 rfl (lv_room (Nat.le_of_ble_eq_true rfl)) dX5_find_17 ⟨by show _ ≤ 243; omega, by show _ ≤ 1215; omega⟩) hw (fun _ h => Or.inr h) (fun g H locs hs hw => ?_)
  have hg := sub_tr hg hs
  refine lv_pop hx hb dX5_find_20 rfl ?_
  refine lv_aload_n hx hb dX5_find_21 rfl (lv_at hl 0 rfl) ?_
  refine cG_501 C in_5 hw.1 k_30 dX5_find_22 ?_
  refine lv_ldc2 hx hb hown k_50 dX5_find_25 ?_
  refine lv_lconst (v := (1 : Int64)) hx hb dX5_find_28 (by decide) ?_
  refine lv_iconst (v := (1 : Int32)) hx hb dX5_find_29 (by decide) ?_
  obtain ⟨r_30, e_30, h⟩ := bnd_of h
  refine callCq (va_runV (As := [.long (4 : Int64), .long (1 : Int64), .int (1 : Int32)]) C (cH_cheapest e_30) (cwV 3 hts gX5_find_X0_cheapest rfl rfl rfl (by decide +kernel) ⟨by decide, by decide⟩) (preM (recv_99 hw.1) hw) rfl rfl hl.1 rfl (lv_room (Nat.le_of_ble_eq_true rfl)) dX5_find_30 ⟨by show _ ≤ 243; omega, by show _ ≤ 1215; omega⟩) hw (fun _ h => Or.inr h) (fun g z_30 H locs hs hp_30 hw => ?_)
  have hg := sub_tr hg hs
  obtain ⟨ce, ec_30⟩ : ∃ x, x = ce + 1 := ⟨_, rfl⟩
  obtain ⟨sl, es_30⟩ : ∃ x, x = sl + 5 := ⟨_, rfl⟩
  rw [← ec_30, ← es_30]
  refine cAstore_n (lv' := [(1, va_rf z_30), (0, .ref (ρ 599))]) hx hb dX5_find_33 rfl hl (by decide) rfl (fun ls hl => ?_)
  refine cAload_n hx hb dX5_find_34 rfl (lv_at hl 0 rfl) ?_
  refine cNull (tgt := 60) hx hb hp_30 dX5_find_35 (by decide) (fun ez_35 ex_35 => ?_) (fun z_35 x_35 ez_35 ex_35 hq_35 => ?_)
  · have h := on_none ex_35 h
    subst ez_35
    have hl : lv_has ls 11 [(1, .null), (0, .ref (ρ 599))] := hl
    exact wS_find_J60 C hr hlk  _ _ _ _ _ _ _ h hw hg (by omega) (lv_sub hl [1] rfl)
  · have h := on_some ex_35 h
    subst ez_35
    have hl : lv_has ls 11 [(1, .ref z_35), (0, .ref (ρ 599))] := hl
    refine lv_aload_n hx hb dX5_find_38 rfl (lv_at hl 0 rfl) ?_
    refine lv_aload_n hx hb dX5_find_39 rfl (lv_at hl 1 rfl) ?_
    refine lv_iconst (v := (0 : Int32)) hx hb dX5_find_40 (by decide) ?_
    obtain ⟨r_41, e_41, h⟩ := bnd_of h
    refine callPq (W.runV (As := [.int (0 : Int32)]) C (cS_planOf e_41) (cwV 1 hts gX5_find_X5_planOf rfl rfl rfl (by decide +kernel) ⟨by decide, by decide⟩) (preR (recv_599 hw.1) hw.1) rfl rfl hl.1 rfl (lv_room (Nat.le_of_ble_eq_true rfl)) dX5_find_41 ⟨by show _ ≤ 243; omega, by show _ ≤ 1215; omega⟩) (fun z_41 hp_41 => ?_)
    obtain ⟨r_44, e_44, h⟩ := bnd_of h
    refine callP (W.runV (As := [va_rf z_41]) C (cP_hasLineOf e_44 hq_35 hp_41) (cwV 1 hts gX5_find_X1_hasLineOf rfl rfl rfl (by decide +kernel) ⟨by decide, by decide⟩) (preR (recvP hw.1 hq_35) hw.1) rfl rfl hl.1 rfl (lv_room (Nat.le_of_ble_eq_true rfl)) dX5_find_44 ⟨by show _ ≤ 243; omega, by show _ ≤ 1215; omega⟩) ?_
    refine lv_if_ne (tgt := 60) hx hb dX5_find_47 (by decide) (fun c_47 => ?_) (fun c_47 => ?_)
    · have h := zz_neg c_47 h
      exact wS_find_J60 C hr hlk  _ _ _ _ _ _ _ h hw hg (by omega) (lv_sub hl [1] rfl)
    · have h := zz_pos c_47 h
      refine lv_aload_n hx hb dX5_find_50 rfl (lv_at hl 1 rfl) ?_
      refine lv_aload_n hx hb dX5_find_51 rfl (lv_at hl 1 rfl) ?_
      refine cG_500 C in_5 hw.1 k_34 dX5_find_52 ?_
      refine lv_aload_n hx hb dX5_find_55 rfl (lv_at hl 0 rfl) ?_
      obtain ⟨r_56, e_56, h⟩ := bnd_of h
      refine callC (va_runV (As := [.int (r_30.2.1 500), va_rf (some z_35)]) C (cS_insert e_56 (pr_in hq_35)) (cwV 2 hts gX5_find_X5_insert rfl rfl rfl (by decide +kernel) ⟨by decide, by decide⟩) (preM (recv_599 hw.1) hw) rfl rfl hl.1 rfl (lv_room (Nat.le_of_ble_eq_true rfl)) dX5_find_56 ⟨by show _ ≤ 243; omega, by show _ ≤ 1215; omega⟩) hw (fun _ h => Or.inr h) (fun g H locs hs hw => ?_)
      have hg := sub_tr hg hs
      have hq_35 := hs _ hq_35
      refine lv_pop hx hb dX5_find_59 rfl ?_
      exact wS_find_J60 C hr hlk  _ _ _ _ _ _ _ h hw hg (by omega) (lv_sub hl [1] rfl)
def fS_leastAt (N : Nat) (σ : CSt) (x1 : Int32) : Option (Int64) := (fC_isPoint N x1).bind fun r_1 => (if r_1 = 0 then some (0 : Int64) else chk x1 33 (some (σ.2.2.2.1 505 x1.toNatClampNeg)))
set_option maxRecDepth 100000 in
set_option maxHeartbeats 4000000 in
theorem cS_leastAt {l : Launch} {D : va_G} {κ : Nat → ClassId} {ρ : Nat → Nat} {g : Gh} {N : Nat} {σ : CSt} {x1 : Int32} {r : Int64} (h : fS_leastAt N σ x1 = some r) : Met l yX5_leastAt wsX5_leastAt ({ frames := 1, cells := 0, slots := 0, locals := 20 } : Room) (va_Pc [.ref (ρ 599), .int x1] (PRC D κ ρ g σ)) (PU (some (.long r))) 0 0 (fun _ => False) := by
  refine cMetR (ret := (some .long)) (by decide) rfl rfl (Nat.le_of_ble_eq_true rfl) ?_
  intro p e s m below meth c ls C hr hlk hw hl
  have hl : lv_has ls 2 [(0, .ref (ρ 599)), (1, .int x1)] := hl
  unfold fS_leastAt at h
  have hx := C.1
  have hb := C.2.1
  have hts := C.2.2.2.2
  have hown := C.2.2.2.1
  have k_24 := hts (.fieldLink RX5 24 "PlanCabinet$Spans" "leastPrices" "[J") (by decide +kernel)
  have in_5 : ∀ w ∈ wsX50, w ∈ wsX5_leastAt := by decide +kernel
  refine lv_iload_n hx hb dX5_leastAt_0 rfl (lv_at hl 1 rfl) ?_
  obtain ⟨r_1, e_1, h⟩ := bnd_of h
  refine callPN (va_runSN (As := [.int x1]) C (cC_isPoint e_1) ⟨va_cnB 1 hts ggX5_leastAt_X6_isPoint rfl rfl rfl hw.2.2.2 (hts (.initialized RX6) (by decide +kernel)) (by decide +kernel) ⟨by decide, by decide⟩, hts (.static yX6_isPoint) (by decide +kernel), trivial⟩ preT rfl rfl hl.1 rfl (lv_room (Nat.le_of_ble_eq_true rfl)) dX5_leastAt_1 ⟨Nat.zero_le _, Nat.zero_le _⟩) ?_
  refine lv_if_eq (tgt := 16) hx hb dX5_leastAt_4 (by decide) (fun c_4 => ?_) (fun c_4 => ?_)
  · have h := zz_pos c_4 h
    refine lv_lconst (v := (0 : Int64)) hx hb dX5_leastAt_16 (by decide) ?_
    exact W.lret hx hb hr (fun t ht hW => ⟨by rw [some_of h], ht⟩) (fun _ h => by cases h) dX5_leastAt_17
  · have h := zz_neg c_4 h
    refine lv_aload_n hx hb dX5_leastAt_7 rfl (lv_at hl 0 rfl) ?_
    refine cG_505 C in_5 hw k_24 dX5_leastAt_8 ?_
    refine lv_iload_n hx hb dX5_leastAt_11 rfl (lv_at hl 1 rfl) ?_
    obtain ⟨b_12, h⟩ := chk_of h
    refine cL_505 C hw b_12 dX5_leastAt_12 ?_
    refine lv_goto (tgt := 17) hx hb dX5_leastAt_13 (by decide) ?_
    exact W.lret hx hb hr (fun t ht hW => ⟨by rw [some_of h], ht⟩) (fun _ h => by cases h) dX5_leastAt_17
def fS_isNear (N : Nat) (σ : CSt) (x1 : Option Pl) (x2 : Int32) (x3 : Int32) : Option (Int32) := on x1 none (fun x_2 => (fP_priceAt N σ x_2 x2).bind fun r_2 => (fS_leastAt N σ x2).bind fun r_11 => (if 0 < (lg_cmp (r_2 * (100 : Int64)) (r_11 * ((100 : Int32) + x3).toInt64)) then some (0 : Int32) else some (1 : Int32)))
set_option maxRecDepth 100000 in
set_option maxHeartbeats 4000000 in
theorem cS_isNear {l : Launch} {D : va_G} {κ : Nat → ClassId} {ρ : Nat → Nat} {g : Gh} {N : Nat} {σ : CSt} {x1 : Option Pl} {x2 : Int32} {x3 : Int32} {zx1 : Option Nat} {r : Int32} (h : fS_isNear N σ x1 x2 x3 = some r) (hpx1 : pr g.2.2.2 zx1 x1) : Met l yX5_isNear wsX5_isNear ({ frames := 2, cells := 0, slots := 0, locals := 41 } : Room) (va_Pc [.ref (ρ 599), va_rf zx1, .int x2, .int x3] (PRC D κ ρ g σ)) (PU (some (.int r))) 0 0 (fun _ => False) := by
  refine cMetR (ret := (some .boolean)) (by decide) rfl rfl (by cases zx1 <;> exact Nat.le_of_ble_eq_true rfl) ?_
  intro p e s m below meth c ls C hr hlk hw hl
  have hl : lv_has ls 4 [(0, .ref (ρ 599)), (1, va_rf zx1), (2, .int x2), (3, .int x3)] := by cases zx1 <;> exact hl
  unfold fS_isNear at h
  have hx := C.1
  have hb := C.2.1
  have hts := C.2.2.2.2
  have hown := C.2.2.2.1
  have k_99 := hts (.constantLong RX5 99 (100)) (by decide +kernel)
  refine cAload_n hx hb dX5_isNear_0 rfl (lv_at hl 1 rfl) ?_
  refine lv_iload_n hx hb dX5_isNear_1 rfl (lv_at hl 2 rfl) ?_
  obtain ⟨x_2, ex_2, h⟩ := on_ne h
  have hz_2 := hpx1
  rw [ex_2] at hz_2
  obtain ⟨z_2, ez_2, hq_2⟩ := pr_some hz_2
  subst ez_2
  have hl : lv_has ls 4 [(0, .ref (ρ 599)), (1, .ref z_2), (2, .int x2), (3, .int x3)] := hl
  refine W.eq (g2 := F0 m 2 ls [.int x2, .ref z_2]) rfl ?_
  obtain ⟨r_2, e_2, h⟩ := bnd_of h
  refine callP (W.runV (As := [.int x2]) C (cP_priceAt e_2 hq_2) (cwV 1 hts gX5_isNear_X1_priceAt rfl rfl rfl (by decide +kernel) ⟨by decide, by decide⟩) (preR (recvP hw hq_2) hw) rfl rfl hl.1 rfl (lv_room (Nat.le_of_ble_eq_true rfl)) dX5_isNear_2 ⟨Nat.zero_le _, Nat.zero_le _⟩) ?_
  refine lv_ldc2 hx hb hown k_99 dX5_isNear_5 ?_
  refine lv_lmul hx hb dX5_isNear_8 ?_
  refine lv_aload_n hx hb dX5_isNear_9 rfl (lv_at hl 0 rfl) ?_
  refine lv_iload_n hx hb dX5_isNear_10 rfl (lv_at hl 2 rfl) ?_
  obtain ⟨r_11, e_11, h⟩ := bnd_of h
  refine callP (W.runV (As := [.int x2]) C (cS_leastAt e_11) (cwV 1 hts gX5_isNear_X5_leastAt rfl rfl rfl (by decide +kernel) ⟨by decide, by decide⟩) (preR (recv_599 hw) hw) rfl rfl hl.1 rfl (lv_room (Nat.le_of_ble_eq_true rfl)) dX5_isNear_11 ⟨Nat.zero_le _, Nat.zero_le _⟩) ?_
  refine lv_bipush (v := (100 : Int32)) hx hb dX5_isNear_14 (by decide) ?_
  refine lv_iload_n hx hb dX5_isNear_16 rfl (lv_at hl 3 rfl) ?_
  refine lv_iadd hx hb dX5_isNear_17 ?_
  refine lv_i2l hx hb dX5_isNear_18 rfl ?_
  refine lv_lmul hx hb dX5_isNear_19 ?_
  refine W.lcmp hx hb dX5_isNear_20 ?_
  refine lv_if_gt (tgt := 28) hx hb dX5_isNear_21 (by decide) (fun c_21 => ?_) (fun c_21 => ?_)
  · have h := zz_pos c_21 h
    refine lv_iconst (v := (0 : Int32)) hx hb dX5_isNear_28 (by decide) ?_
    exact W.zret (ty := .boolean) hx hb hr (by decide +kernel) (fun t ht hW => ⟨by rw [some_of h], ht⟩) (fun _ h => by cases h) dX5_isNear_29
  · have h := zz_neg c_21 h
    refine lv_iconst (v := (1 : Int32)) hx hb dX5_isNear_24 (by decide) ?_
    refine lv_goto (tgt := 29) hx hb dX5_isNear_25 (by decide) ?_
    exact W.zret (ty := .boolean) hx hb hr (by decide +kernel) (fun t ht hW => ⟨by rw [some_of h], ht⟩) (fun _ h => by cases h) dX5_isNear_29
def fS_isRegretLess (N : Nat) (σ : CSt) (x1 : Option Pl) (x2 : Int32) (x3 : Option Pl) (x4 : Int32) : Option (Int32) := on x1 none (fun x_2 => (fP_priceAt N σ x_2 x2).bind fun r_2 => (fS_leastAt N σ x4).bind fun r_8 => on x3 none (fun x_15 => (fP_priceAt N σ x_15 x4).bind fun r_15 => (fS_leastAt N σ x2).bind fun r_20 => (if 0 ≤ (lg_cmp (r_2 * r_8) (r_15 * r_20)) then some (0 : Int32) else some (1 : Int32))))
set_option maxRecDepth 100000 in
set_option maxHeartbeats 4000000 in
theorem cS_isRegretLess {l : Launch} {D : va_G} {κ : Nat → ClassId} {ρ : Nat → Nat} {g : Gh} {N : Nat} {σ : CSt} {x1 : Option Pl} {x2 : Int32} {x3 : Option Pl} {x4 : Int32} {zx1 : Option Nat} {zx3 : Option Nat} {r : Int32} (h : fS_isRegretLess N σ x1 x2 x3 x4 = some r) (hpx1 : pr g.2.2.2 zx1 x1) (hpx3 : pr g.2.2.2 zx3 x3) : Met l yX5_isRegretLess wsX5_isRegretLess ({ frames := 2, cells := 0, slots := 0, locals := 41 } : Room) (va_Pc [.ref (ρ 599), va_rf zx1, .int x2, va_rf zx3, .int x4] (PRC D κ ρ g σ)) (PU (some (.int r))) 0 0 (fun _ => False) := by
  refine cMetR (ret := (some .boolean)) (by decide) rfl rfl (by cases zx1 <;> cases zx3 <;> exact Nat.le_of_ble_eq_true rfl) ?_
  intro p e s m below meth c ls C hr hlk hw hl
  have hl : lv_has ls 5 [(0, .ref (ρ 599)), (1, va_rf zx1), (2, .int x2), (3, va_rf zx3), (4, .int x4)] := by cases zx1 <;> cases zx3 <;> exact hl
  unfold fS_isRegretLess at h
  have hx := C.1
  have hb := C.2.1
  have hts := C.2.2.2.2
  have hown := C.2.2.2.1
  refine cAload_n hx hb dX5_isRegretLess_0 rfl (lv_at hl 1 rfl) ?_
  refine lv_iload_n hx hb dX5_isRegretLess_1 rfl (lv_at hl 2 rfl) ?_
  obtain ⟨x_2, ex_2, h⟩ := on_ne h
  have hz_2 := hpx1
  rw [ex_2] at hz_2
  obtain ⟨z_2, ez_2, hq_2⟩ := pr_some hz_2
  subst ez_2
  have hl : lv_has ls 5 [(0, .ref (ρ 599)), (1, .ref z_2), (2, .int x2), (3, va_rf zx3), (4, .int x4)] := hl
  refine W.eq (g2 := F0 m 2 ls [.int x2, .ref z_2]) rfl ?_
  obtain ⟨r_2, e_2, h⟩ := bnd_of h
  refine callP (W.runV (As := [.int x2]) C (cP_priceAt e_2 hq_2) (cwV 1 hts gX5_isRegretLess_X1_priceAt rfl rfl rfl (by decide +kernel) ⟨by decide, by decide⟩) (preR (recvP hw hq_2) hw) rfl rfl hl.1 rfl (lv_room (Nat.le_of_ble_eq_true rfl)) dX5_isRegretLess_2 ⟨Nat.zero_le _, Nat.zero_le _⟩) ?_
  refine lv_aload_n hx hb dX5_isRegretLess_5 rfl (lv_at hl 0 rfl) ?_
  refine lv_iload hx hb dX5_isRegretLess_6 (lv_at hl 4 rfl) ?_
  obtain ⟨r_8, e_8, h⟩ := bnd_of h
  refine callP (W.runV (As := [.int x4]) C (cS_leastAt e_8) (cwV 1 hts gX5_isRegretLess_X5_leastAt rfl rfl rfl (by decide +kernel) ⟨by decide, by decide⟩) (preR (recv_599 hw) hw) rfl rfl hl.1 rfl (lv_room (Nat.le_of_ble_eq_true rfl)) dX5_isRegretLess_8 ⟨Nat.zero_le _, Nat.zero_le _⟩) ?_
  refine lv_lmul hx hb dX5_isRegretLess_11 ?_
  refine cAload_n hx hb dX5_isRegretLess_12 rfl (lv_at hl 3 rfl) ?_
  refine lv_iload hx hb dX5_isRegretLess_13 (lv_at hl 4 rfl) ?_
  obtain ⟨x_15, ex_15, h⟩ := on_ne h
  have hz_15 := hpx3
  rw [ex_15] at hz_15
  obtain ⟨z_15, ez_15, hq_15⟩ := pr_some hz_15
  subst ez_15
  have hl : lv_has ls 5 [(0, .ref (ρ 599)), (1, .ref z_2), (2, .int x2), (3, .ref z_15), (4, .int x4)] := hl
  refine W.eq (g2 := F0 m 15 ls [.int x4, .ref z_15, .long (r_2 * r_8)]) rfl ?_
  obtain ⟨r_15, e_15, h⟩ := bnd_of h
  refine callP (W.runV (As := [.int x4]) C (cP_priceAt e_15 hq_15) (cwV 1 hts gX5_isRegretLess_X1_priceAt rfl rfl rfl (by decide +kernel) ⟨by decide, by decide⟩) (preR (recvP hw hq_15) hw) rfl rfl hl.1 rfl (lv_room (Nat.le_of_ble_eq_true rfl)) dX5_isRegretLess_15 ⟨Nat.zero_le _, Nat.zero_le _⟩) ?_
  refine lv_aload_n hx hb dX5_isRegretLess_18 rfl (lv_at hl 0 rfl) ?_
  refine lv_iload_n hx hb dX5_isRegretLess_19 rfl (lv_at hl 2 rfl) ?_
  obtain ⟨r_20, e_20, h⟩ := bnd_of h
  refine callP (W.runV (As := [.int x2]) C (cS_leastAt e_20) (cwV 1 hts gX5_isRegretLess_X5_leastAt rfl rfl rfl (by decide +kernel) ⟨by decide, by decide⟩) (preR (recv_599 hw) hw) rfl rfl hl.1 rfl (lv_room (Nat.le_of_ble_eq_true rfl)) dX5_isRegretLess_20 ⟨Nat.zero_le _, Nat.zero_le _⟩) ?_
  refine lv_lmul hx hb dX5_isRegretLess_23 ?_
  refine W.lcmp hx hb dX5_isRegretLess_24 ?_
  refine lv_if_ge (tgt := 32) hx hb dX5_isRegretLess_25 (by decide) (fun c_25 => ?_) (fun c_25 => ?_)
  · have h := zz_pos c_25 h
    refine lv_iconst (v := (0 : Int32)) hx hb dX5_isRegretLess_32 (by decide) ?_
    exact W.zret (ty := .boolean) hx hb hr (by decide +kernel) (fun t ht hW => ⟨by rw [some_of h], ht⟩) (fun _ h => by cases h) dX5_isRegretLess_33
  · have h := zz_neg c_25 h
    refine lv_iconst (v := (1 : Int32)) hx hb dX5_isRegretLess_28 (by decide) ?_
    refine lv_goto (tgt := 33) hx hb dX5_isRegretLess_29 (by decide) ?_
    exact W.zret (ty := .boolean) hx hb hr (by decide +kernel) (fun t ht hW => ⟨by rw [some_of h], ht⟩) (fun _ h => by cases h) dX5_isRegretLess_33
def fS_worstPoint_L4 (N : Nat) (σ : CSt) : Nat → Option Pl → Int32 → Int32 → Option (Int32)
  | 0, _, _, _ => none
  | n + 1, x1, x2, x3 => (if (33 : Int32) ≤ x3 then some x2 else (fS_isRegretLess N σ x1 x2 x1 x3).bind fun r_15 => (if r_15 = 0 then fS_worstPoint_L4 N σ n x1 x2 (x3 + 1) else fS_worstPoint_L4 N σ n x1 x3 (x3 + 1)))
def fS_worstPoint (N : Nat) (σ : CSt) (x1 : Option Pl) : Option (Int32) := fS_worstPoint_L4 N σ N x1 (0 : Int32) (1 : Int32)
set_option maxRecDepth 100000 in
set_option maxHeartbeats 4000000 in
theorem wS_worstPoint_L4 {p : Program} {l : Launch} {e : Env} {s : State} {m : MethodId} {args : Array Value} {below : List Frame} {meth : Method} {c : Code} {D : va_G} {κ : Nat → ClassId} {ρ : Nat → Nat} {g : Gh} {σ : CSt} (C : CallFix p m c cX5_worstPoint 4 s args wsX5_worstPoint RX5) (hr : meth.sig.returnType = (some .int)) (hlk : meth.locks = false) (hw : RC D κ ρ g σ s s.heap) {N : Nat} {r : Int32} : ∀ (n : Nat) (x1 : Option Pl) (x2 : Int32) (x3 : Int32) (zx1 : Option Nat) (ls : Array Slot), fS_worstPoint_L4 N σ n x1 x2 x3 = some r → pr g.2.2.2 zx1 x1 → lv_has ls 4 [(0, .ref (ρ 599)), (1, va_rf zx1), (2, .int x2), (3, .int x3)] → W p l e ({ frames := 3, cells := 0, slots := 0, locals := 65 } : Room) s m args below meth c s.heap [] 0 0 (MQ below (PU (some (.int r))) args s 0 0 (fun _ => False)) (F0 m 4 ls []) := by
  have hx := C.1
  have hb := C.2.1
  have hts := C.2.2.2.2
  have hown := C.2.2.2.1
  intro n
  induction n with
  | zero =>
    intro x1 x2 x3 zx1 ls h hpx1 hl
    rw [fS_worstPoint_L4] at h
    cases h
  | succ n ih =>
    intro x1 x2 x3 zx1 ls h hpx1 hl
    rw [fS_worstPoint_L4] at h
    refine lv_iload_n hx hb dX5_worstPoint_4 rfl (lv_at hl 3 rfl) ?_
    refine lv_bipush (v := (33 : Int32)) hx hb dX5_worstPoint_5 (by decide) ?_
    refine lv_icmp_ge (tgt := 29) hx hb dX5_worstPoint_7 (by decide) (fun c_7 => ?_) (fun c_7 => ?_)
    · have h := zz_pos c_7 h
      refine lv_iload_n hx hb dX5_worstPoint_29 rfl (lv_at hl 2 rfl) ?_
      exact W.iret hx hb hr (fun t ht hW => ⟨by rw [some_of h], ht⟩) (fun _ h => by cases h) dX5_worstPoint_30
    · have h := zz_neg c_7 h
      refine lv_aload_n hx hb dX5_worstPoint_10 rfl (lv_at hl 0 rfl) ?_
      refine cAload_n hx hb dX5_worstPoint_11 rfl (lv_at hl 1 rfl) ?_
      refine lv_iload_n hx hb dX5_worstPoint_12 rfl (lv_at hl 2 rfl) ?_
      refine cAload_n hx hb dX5_worstPoint_13 rfl (lv_at hl 1 rfl) ?_
      refine lv_iload_n hx hb dX5_worstPoint_14 rfl (lv_at hl 3 rfl) ?_
      obtain ⟨r_15, e_15, h⟩ := bnd_of h
      refine callP (W.runV (As := [va_rf zx1, .int x2, va_rf zx1, .int x3]) C (cS_isRegretLess e_15 hpx1 hpx1) (cwV 4 hts gX5_worstPoint_X5_isRegretLess rfl rfl rfl (by decide +kernel) ⟨by decide, by decide⟩) (preR (recv_599 hw) hw) rfl rfl hl.1 rfl (lv_room (Nat.le_of_ble_eq_true rfl)) dX5_worstPoint_15 ⟨Nat.zero_le _, Nat.zero_le _⟩) ?_
      refine lv_if_eq (tgt := 23) hx hb dX5_worstPoint_18 (by decide) (fun c_18 => ?_) (fun c_18 => ?_)
      · have h := zz_pos c_18 h
        refine lv_iinc (v := (x3 + 1)) (lv' := [(3, .int (x3 + 1)), (0, .ref (ρ 599)), (1, va_rf zx1), (2, .int x2)]) hx hb dX5_worstPoint_23 hl (k := 3) rfl rfl (by decide) rfl (fun ls hl => ?_)
        refine lv_goto (tgt := 4) hx hb dX5_worstPoint_26 (by decide) ?_
        exact ih _ _ _ zx1 _ h hpx1 (lv_sub hl [1, 2, 3, 0] rfl)
      · have h := zz_neg c_18 h
        refine lv_iload_n hx hb dX5_worstPoint_21 rfl (lv_at hl 3 rfl) ?_
        refine lv_istore_n (lv' := [(2, .int x3), (0, .ref (ρ 599)), (1, va_rf zx1), (3, .int x3)]) hx hb dX5_worstPoint_22 rfl hl (by decide) (by cases zx1 <;> rfl) (fun ls hl => ?_)
        refine lv_iinc (v := (x3 + 1)) (lv' := [(3, .int (x3 + 1)), (2, .int x3), (0, .ref (ρ 599)), (1, va_rf zx1)]) hx hb dX5_worstPoint_23 hl (k := 3) rfl rfl (by decide) rfl (fun ls hl => ?_)
        refine lv_goto (tgt := 4) hx hb dX5_worstPoint_26 (by decide) ?_
        exact ih _ _ _ zx1 _ h hpx1 (lv_sub hl [2, 3, 1, 0] rfl)
set_option maxRecDepth 100000 in
set_option maxHeartbeats 4000000 in
theorem cS_worstPoint {l : Launch} {D : va_G} {κ : Nat → ClassId} {ρ : Nat → Nat} {g : Gh} {N : Nat} {σ : CSt} {x1 : Option Pl} {zx1 : Option Nat} {r : Int32} (h : fS_worstPoint N σ x1 = some r) (hpx1 : pr g.2.2.2 zx1 x1) : Met l yX5_worstPoint wsX5_worstPoint ({ frames := 3, cells := 0, slots := 0, locals := 65 } : Room) (va_Pc [.ref (ρ 599), va_rf zx1] (PRC D κ ρ g σ)) (PU (some (.int r))) 0 0 (fun _ => False) := by
  refine cMetR (ret := (some .int)) (by decide) rfl rfl (by cases zx1 <;> exact Nat.le_of_ble_eq_true rfl) ?_
  intro p e s m below meth c ls C hr hlk hw hl
  have hl : lv_has ls 4 [(0, .ref (ρ 599)), (1, va_rf zx1)] := by cases zx1 <;> exact hl
  unfold fS_worstPoint at h
  have hx := C.1
  have hb := C.2.1
  have hts := C.2.2.2.2
  have hown := C.2.2.2.1
  refine lv_iconst (v := (0 : Int32)) hx hb dX5_worstPoint_0 (by decide) ?_
  refine lv_istore_n (lv' := [(2, .int (0 : Int32)), (0, .ref (ρ 599)), (1, va_rf zx1)]) hx hb dX5_worstPoint_1 rfl hl (by decide) (by cases zx1 <;> rfl) (fun ls hl => ?_)
  refine lv_iconst (v := (1 : Int32)) hx hb dX5_worstPoint_2 (by decide) ?_
  refine lv_istore_n (lv' := [(3, .int (1 : Int32)), (2, .int (0 : Int32)), (0, .ref (ρ 599)), (1, va_rf zx1)]) hx hb dX5_worstPoint_3 rfl hl (by decide) rfl (fun ls hl => ?_)
  exact wS_worstPoint_L4 C hr hlk hw _ _ _ _ zx1 _ h hpx1 (lv_sub hl [2, 3, 1, 0] rfl)
def fS_leastWrong_L4 (N : Nat) (σ : CSt) : Nat → Int32 → Int32 → Option (Int32)
  | 0, _, _ => none
  | n + 1, x1, x2 => (if (σ.1 500) ≤ x2 then some x1 else (fS_planOf N σ x2).bind fun r_14 => (fS_planOf N σ x1).bind fun r_20 => on r_14 (fS_leastWrong_L4 N σ n x1 (x2 + 1)) (fun x_26 => on r_20 (fS_leastWrong_L4 N σ n x1 (x2 + 1)) (fun x_31 => (fS_worstPoint N σ (some x_26)).bind fun r_38 => (fS_worstPoint N σ (some x_31)).bind fun r_46 => (fS_isRegretLess N σ (some x_26) r_38 (some x_31) r_46).bind fun r_49 => (if r_49 = 0 then fS_leastWrong_L4 N σ n x1 (x2 + 1) else fS_leastWrong_L4 N σ n x2 (x2 + 1)))))
def fS_leastWrong (N : Nat) (σ : CSt) : Option (Int32) := fS_leastWrong_L4 N σ N (0 : Int32) (1 : Int32)
set_option maxRecDepth 100000 in
set_option maxHeartbeats 4000000 in
theorem wS_leastWrong_L4 {p : Program} {l : Launch} {e : Env} {s : State} {m : MethodId} {args : Array Value} {below : List Frame} {meth : Method} {c : Code} {D : va_G} {κ : Nat → ClassId} {ρ : Nat → Nat} {g : Gh} {σ : CSt} (C : CallFix p m c cX5_leastWrong 5 s args wsX5_leastWrong RX5) (hr : meth.sig.returnType = (some .int)) (hlk : meth.locks = false) (hw : RC D κ ρ g σ s s.heap) {N : Nat} {r : Int32} : ∀ (n : Nat) (x1 : Int32) (x2 : Int32) (ls : Array Slot), fS_leastWrong_L4 N σ n x1 x2 = some r → lv_has ls 5 [(0, .ref (ρ 599)), (1, .int x1), (2, .int x2)] → W p l e ({ frames := 4, cells := 0, slots := 0, locals := 88 } : Room) s m args below meth c s.heap [] 0 0 (MQ below (PU (some (.int r))) args s 0 0 (fun _ => False)) (F0 m 4 ls []) := by
  have hx := C.1
  have hb := C.2.1
  have hts := C.2.2.2.2
  have hown := C.2.2.2.1
  have k_34 := hts (.fieldLink RX5 34 "PlanCabinet$Spans" "count" "I") (by decide +kernel)
  have in_5 : ∀ w ∈ wsX50, w ∈ wsX5_leastWrong := by decide +kernel
  intro n
  induction n with
  | zero =>
    intro x1 x2 ls h hl
    rw [fS_leastWrong_L4] at h
    cases h
  | succ n ih =>
    intro x1 x2 ls h hl
    rw [fS_leastWrong_L4] at h
    refine lv_iload_n hx hb dX5_leastWrong_4 rfl (lv_at hl 2 rfl) ?_
    refine lv_aload_n hx hb dX5_leastWrong_5 rfl (lv_at hl 0 rfl) ?_
    refine cG_500 C in_5 hw k_34 dX5_leastWrong_6 ?_
    refine lv_icmp_ge (tgt := 63) hx hb dX5_leastWrong_9 (by decide) (fun c_9 => ?_) (fun c_9 => ?_)
    · have h := zz_pos c_9 h
      refine lv_iload_n hx hb dX5_leastWrong_63 rfl (lv_at hl 1 rfl) ?_
      exact W.iret hx hb hr (fun t ht hW => ⟨by rw [some_of h], ht⟩) (fun _ h => by cases h) dX5_leastWrong_64
    · have h := zz_neg c_9 h
      refine lv_aload_n hx hb dX5_leastWrong_12 rfl (lv_at hl 0 rfl) ?_
      refine lv_iload_n hx hb dX5_leastWrong_13 rfl (lv_at hl 2 rfl) ?_
      obtain ⟨r_14, e_14, h⟩ := bnd_of h
      refine callPq (W.runV (As := [.int x2]) C (cS_planOf e_14) (cwV 1 hts gX5_leastWrong_X5_planOf rfl rfl rfl (by decide +kernel) ⟨by decide, by decide⟩) (preR (recv_599 hw) hw) rfl rfl hl.1 rfl (lv_room (Nat.le_of_ble_eq_true rfl)) dX5_leastWrong_14 ⟨Nat.zero_le _, Nat.zero_le _⟩) (fun z_14 hp_14 => ?_)
      refine cAstore_n (lv' := [(3, va_rf z_14), (0, .ref (ρ 599)), (1, .int x1), (2, .int x2)]) hx hb dX5_leastWrong_17 rfl hl (by decide) rfl (fun ls hl => ?_)
      refine lv_aload_n hx hb dX5_leastWrong_18 rfl (lv_at hl 1 rfl) ?_
      refine lv_iload_n hx hb dX5_leastWrong_19 rfl (lv_at hl 2 rfl) ?_
      obtain ⟨r_20, e_20, h⟩ := bnd_of h
      refine callPq (W.runV (As := [.int x1]) C (cS_planOf e_20) (cwV 1 hts gX5_leastWrong_X5_planOf rfl rfl rfl (by decide +kernel) ⟨by decide, by decide⟩) (preR (recv_599 hw) hw) rfl rfl hl.1 rfl (lv_room (Nat.le_of_ble_eq_true rfl)) dX5_leastWrong_20 ⟨Nat.zero_le _, Nat.zero_le _⟩) (fun z_20 hp_20 => ?_)
      refine cAstore (lv' := [(4, va_rf z_20), (3, va_rf z_14), (0, .ref (ρ 599)), (1, .int x1), (2, .int x2)]) hx hb dX5_leastWrong_23 hl (by decide) (by cases z_14 <;> rfl) (fun ls hl => ?_)
      refine cAload_n hx hb dX5_leastWrong_25 rfl (lv_at hl 1 rfl) ?_
      refine cNull (tgt := 57) hx hb hp_14 dX5_leastWrong_26 (by decide) (fun ez_26 ex_26 => ?_) (fun z_26 x_26 ez_26 ex_26 hq_26 => ?_)
      · have h := on_none ex_26 h
        subst ez_26
        have hl : lv_has ls 5 [(4, va_rf z_20), (3, .null), (0, .ref (ρ 599)), (1, .int x1), (2, .int x2)] := hl
        refine lv_iinc (v := (x2 + 1)) (lv' := [(2, .int (x2 + 1)), (4, va_rf z_20), (3, .null), (0, .ref (ρ 599)), (1, .int x1)]) hx hb dX5_leastWrong_57 hl (k := 4) rfl rfl (by decide) rfl (fun ls hl => ?_)
        refine lv_goto (tgt := 4) hx hb dX5_leastWrong_60 (by decide) ?_
        exact ih _ _ _ h (lv_sub hl [3, 4, 0] rfl)
      · have h := on_some ex_26 h
        subst ez_26
        have hl : lv_has ls 5 [(4, va_rf z_20), (3, .ref z_26), (0, .ref (ρ 599)), (1, .int x1), (2, .int x2)] := hl
        refine cAload hx hb dX5_leastWrong_29 (lv_at hl 0 rfl) ?_
        refine cNull (tgt := 57) hx hb hp_20 dX5_leastWrong_31 (by decide) (fun ez_31 ex_31 => ?_) (fun z_31 x_31 ez_31 ex_31 hq_31 => ?_)
        · have h := on_none ex_31 h
          subst ez_31
          have hl : lv_has ls 5 [(4, .null), (3, .ref z_26), (0, .ref (ρ 599)), (1, .int x1), (2, .int x2)] := hl
          refine lv_iinc (v := (x2 + 1)) (lv' := [(2, .int (x2 + 1)), (4, .null), (3, .ref z_26), (0, .ref (ρ 599)), (1, .int x1)]) hx hb dX5_leastWrong_57 hl (k := 4) rfl rfl (by decide) rfl (fun ls hl => ?_)
          refine lv_goto (tgt := 4) hx hb dX5_leastWrong_60 (by decide) ?_
          exact ih _ _ _ h (lv_sub hl [3, 4, 0] rfl)
        · have h := on_some ex_31 h
          subst ez_31
          have hl : lv_has ls 5 [(4, .ref z_31), (3, .ref z_26), (0, .ref (ρ 599)), (1, .int x1), (2, .int x2)] := hl
          refine lv_aload_n hx hb dX5_leastWrong_34 rfl (lv_at hl 2 rfl) ?_
          refine lv_aload_n hx hb dX5_leastWrong_35 rfl (lv_at hl 1 rfl) ?_
          refine lv_aload_n hx hb dX5_leastWrong_36 rfl (lv_at hl 2 rfl) ?_
          refine lv_aload_n hx hb dX5_leastWrong_37 rfl (lv_at hl 1 rfl) ?_
          obtain ⟨r_38, e_38, h⟩ := bnd_of h
          refine callP (W.runV (As := [va_rf (some z_26)]) C (cS_worstPoint e_38 (pr_in hq_26)) (cwV 1 hts gX5_leastWrong_X5_worstPoint rfl rfl rfl (by decide +kernel) ⟨by decide, by decide⟩) (preR (recv_599 hw) hw) rfl rfl hl.1 rfl (lv_room (Nat.le_of_ble_eq_true rfl)) dX5_leastWrong_38 ⟨Nat.zero_le _, Nat.zero_le _⟩) ?_
          refine lv_aload hx hb dX5_leastWrong_41 (lv_at hl 0 rfl) ?_
          refine lv_aload_n hx hb dX5_leastWrong_43 rfl (lv_at hl 2 rfl) ?_
          refine lv_aload hx hb dX5_leastWrong_44 (lv_at hl 0 rfl) ?_
          obtain ⟨r_46, e_46, h⟩ := bnd_of h
          refine callP (W.runV (As := [va_rf (some z_31)]) C (cS_worstPoint e_46 (pr_in hq_31)) (cwV 1 hts gX5_leastWrong_X5_worstPoint rfl rfl rfl (by decide +kernel) ⟨by decide, by decide⟩) (preR (recv_599 hw) hw) rfl rfl hl.1 rfl (lv_room (Nat.le_of_ble_eq_true rfl)) dX5_leastWrong_46 ⟨Nat.zero_le _, Nat.zero_le _⟩) ?_
          obtain ⟨r_49, e_49, h⟩ := bnd_of h
          refine callP (W.runV (As := [va_rf (some z_26), .int r_38, va_rf (some z_31), .int r_46]) C (cS_isRegretLess e_49 (pr_in hq_26) (pr_in hq_31)) (cwV 4 hts gX5_leastWrong_X5_isRegretLess rfl rfl rfl (by decide +kernel) ⟨by decide, by decide⟩) (preR (recv_599 hw) hw) rfl rfl hl.1 rfl (lv_room (Nat.le_of_ble_eq_true rfl)) dX5_leastWrong_49 ⟨Nat.zero_le _, Nat.zero_le _⟩) ?_
          refine lv_if_eq (tgt := 57) hx hb dX5_leastWrong_52 (by decide) (fun c_52 => ?_) (fun c_52 => ?_)
          · have h := zz_pos c_52 h
            refine lv_iinc (v := (x2 + 1)) (lv' := [(2, .int (x2 + 1)), (4, .ref z_31), (3, .ref z_26), (0, .ref (ρ 599)), (1, .int x1)]) hx hb dX5_leastWrong_57 hl (k := 4) rfl rfl (by decide) rfl (fun ls hl => ?_)
            refine lv_goto (tgt := 4) hx hb dX5_leastWrong_60 (by decide) ?_
            exact ih _ _ _ h (lv_sub hl [3, 4, 0] rfl)
          · have h := zz_neg c_52 h
            refine lv_iload_n hx hb dX5_leastWrong_55 rfl (lv_at hl 4 rfl) ?_
            refine lv_istore_n (lv' := [(1, .int x2), (4, .ref z_31), (3, .ref z_26), (0, .ref (ρ 599)), (2, .int x2)]) hx hb dX5_leastWrong_56 rfl hl (by decide) rfl (fun ls hl => ?_)
            refine lv_iinc (v := (x2 + 1)) (lv' := [(2, .int (x2 + 1)), (1, .int x2), (4, .ref z_31), (3, .ref z_26), (0, .ref (ρ 599))]) hx hb dX5_leastWrong_57 hl (k := 4) rfl rfl (by decide) rfl (fun ls hl => ?_)
            refine lv_goto (tgt := 4) hx hb dX5_leastWrong_60 (by decide) ?_
            exact ih _ _ _ h (lv_sub hl [4, 1, 0] rfl)
set_option maxRecDepth 100000 in
set_option maxHeartbeats 4000000 in
theorem cS_leastWrong {l : Launch} {D : va_G} {κ : Nat → ClassId} {ρ : Nat → Nat} {g : Gh} {N : Nat} {σ : CSt} {r : Int32} (h : fS_leastWrong N σ = some r) : Met l yX5_leastWrong wsX5_leastWrong ({ frames := 4, cells := 0, slots := 0, locals := 88 } : Room) (va_Pc [.ref (ρ 599)] (PRC D κ ρ g σ)) (PU (some (.int r))) 0 0 (fun _ => False) := by
  refine cMetR (ret := (some .int)) (by decide) rfl rfl (Nat.le_of_ble_eq_true rfl) ?_
  intro p e s m below meth c ls C hr hlk hw hl
  have hl : lv_has ls 5 [(0, .ref (ρ 599))] := hl
  unfold fS_leastWrong at h
  have hx := C.1
  have hb := C.2.1
  have hts := C.2.2.2.2
  have hown := C.2.2.2.1
  refine lv_iconst (v := (0 : Int32)) hx hb dX5_leastWrong_0 (by decide) ?_
  refine lv_istore_n (lv' := [(1, .int (0 : Int32)), (0, .ref (ρ 599))]) hx hb dX5_leastWrong_1 rfl hl (by decide) rfl (fun ls hl => ?_)
  refine lv_iconst (v := (1 : Int32)) hx hb dX5_leastWrong_2 (by decide) ?_
  refine lv_istore_n (lv' := [(2, .int (1 : Int32)), (1, .int (0 : Int32)), (0, .ref (ρ 599))]) hx hb dX5_leastWrong_3 rfl hl (by decide) rfl (fun ls hl => ?_)
  exact wS_leastWrong_L4 C hr hlk hw _ _ _ _ h (lv_sub hl [2, 1, 0] rfl)
def fS_findPointsNear_L28 (N : Nat) (K65 : CSt → Int32 → Int32 → Int64 → Option (CSt)) : Nat → CSt → Int32 → Int32 → Option Pl → Int64 → Int32 → Option (CSt)
  | 0, _, _, _, _, _, _ => none
  | n + 1, σ, x1, x2, x3, x4, x6 => (if (33 : Int32) ≤ x6 then K65 σ x1 x2 x4 else on x3 (fS_findPointsNear_L28 N K65 n σ x1 x2 none x4 (x6 + 1)) (fun x_36 => (fS_isNear N σ (some x_36) x6 x1).bind fun r_44 => (if r_44 = 0 then fS_findPointsNear_L28 N K65 n σ x1 x2 (some x_36) x4 (x6 + 1) else fS_findPointsNear_L28 N K65 n σ x1 x2 (some x_36) (x4 ||| ((1 : Int64) <<< (x6.toInt64 &&& 63))) (x6 + 1))))
def fS_findPointsNear_L2 (N : Nat) : Nat → CSt → Int32 → Int32 → Option (CSt)
  | 0, _, _, _ => none
  | n + 1, σ, x1, x2 => (if (σ.1 500) ≤ x2 then some σ else (if (16 : Int32) ≤ x2 then some σ else (fS_planOf N σ x2).bind fun r_18 => fS_findPointsNear_L28 N (fun (σ : CSt) (x1 : Int32) (x2 : Int32) (x4 : Int64) => chk x2 16 (fS_findPointsNear_L2 N n (cB σ 506 x2.toNatClampNeg x4) x1 (x2 + 1))) N σ x1 x2 r_18 (0 : Int64) (0 : Int32)))
def fS_findPointsNear (N : Nat) (σ : CSt) (x1 : Int32) : Option (CSt) := fS_findPointsNear_L2 N N σ x1 (0 : Int32)
set_option maxRecDepth 100000 in
set_option maxHeartbeats 4000000 in
theorem wS_findPointsNear_L28 {p : Program} {l : Launch} {e : Env} {s : State} {m : MethodId} {args : Array Value} {below : List Frame} {meth : Method} {c : Code} {D : va_G} {κ : Nat → ClassId} {ρ : Nat → Nat} {g0 : Gh} (C : CallFix p m c cX5_findPointsNear 7 s args wsX5_findPointsNear RX5) (hr : meth.sig.returnType = none) (hlk : meth.locks = false) {N : Nat} {q : CSt} {K65 : CSt → Int32 → Int32 → Int64 → Option (CSt)} : ∀ (n : Nat) (σ : CSt) (x1 : Int32) (x2 : Int32) (x3 : Option Pl) (x4 : Int64) (x6 : Int32) (zx3 : Option Nat) (g : Gh) (H : Heap) (locs : List Loc) (ls : Array Slot), fS_findPointsNear_L28 N K65 n σ x1 x2 x3 x4 x6 = some q → WC D κ ρ (AC ρ g0 s.heap.size) s.heap g σ s H locs → sub g0 g → pr g.2.2.2 zx3 x3 → lv_has ls 7 [(0, .ref (ρ 599)), (1, .int x1), (2, .int x2), (3, va_rf zx3), (4, .long x4), (6, .int x6)] → (∀ (σ : CSt) (x1 : Int32) (x2 : Int32) (x4 : Int64) (g : Gh) (H : Heap) (locs : List Loc) (ls : Array Slot), K65 σ x1 x2 x4 = some q → WC D κ ρ (AC ρ g0 s.heap.size) s.heap g σ s H locs → sub g0 g → lv_has ls 7 [(0, .ref (ρ 599)), (1, .int x1), (2, .int x2), (4, .long x4)] → W p l e ({ frames := 3, cells := 0, slots := 0, locals := 64 } : Room) s m args below meth c H locs 0 0 (MQ below (QC D κ ρ s.heap.size g0 q none) args s 0 0 (AC ρ g0 s.heap.size)) (F0 m 65 ls [])) → W p l e ({ frames := 3, cells := 0, slots := 0, locals := 64 } : Room) s m args below meth c H locs 0 0 (MQ below (QC D κ ρ s.heap.size g0 q none) args s 0 0 (AC ρ g0 s.heap.size)) (F0 m 28 ls []) := by
  have hx := C.1
  have hb := C.2.1
  have hts := C.2.2.2.2
  have hown := C.2.2.2.1
  intro n
  induction n with
  | zero =>
    intro σ x1 x2 x3 x4 x6 zx3 g H locs ls h hw hg hpx3 hl hK65
    rw [fS_findPointsNear_L28] at h
    cases h
  | succ n ih =>
    intro σ x1 x2 x3 x4 x6 zx3 g H locs ls h hw hg hpx3 hl hK65
    rw [fS_findPointsNear_L28] at h
    refine lv_iload hx hb dX5_findPointsNear_28 (lv_at hl 5 rfl) ?_
    refine lv_bipush (v := (33 : Int32)) hx hb dX5_findPointsNear_30 (by decide) ?_
    refine lv_icmp_ge (tgt := 65) hx hb dX5_findPointsNear_32 (by decide) (fun c_32 => ?_) (fun c_32 => ?_)
    · have h := zz_pos c_32 h
      exact hK65 _ _ _ _ _ _ _ _ h hw hg (lv_sub hl [0, 1, 2, 4] rfl)
    · have h := zz_neg c_32 h
      refine cAload_n hx hb dX5_findPointsNear_35 rfl (lv_at hl 3 rfl) ?_
      refine cNull (tgt := 59) hx hb hpx3 dX5_findPointsNear_36 (by decide) (fun ez_36 ex_36 => ?_) (fun z_36 x_36 ez_36 ex_36 hq_36 => ?_)
      · have h := on_none ex_36 h
        subst ez_36
        have hl : lv_has ls 7 [(0, .ref (ρ 599)), (1, .int x1), (2, .int x2), (3, .null), (4, .long x4), (6, .int x6)] := hl
        refine lv_iinc (v := (x6 + 1)) (lv' := [(6, .int (x6 + 1)), (0, .ref (ρ 599)), (1, .int x1), (2, .int x2), (3, .null), (4, .long x4)]) hx hb dX5_findPointsNear_59 hl (k := 5) rfl rfl (by decide) rfl (fun ls hl => ?_)
        refine lv_goto (tgt := 28) hx hb dX5_findPointsNear_62 (by decide) ?_
        exact ih _ _ _ _ _ _ none _ _ _ _ h hw hg trivial (lv_sub hl [1, 2, 3, 4, 5, 0] rfl) hK65
      · have h := on_some ex_36 h
        subst ez_36
        have hl : lv_has ls 7 [(0, .ref (ρ 599)), (1, .int x1), (2, .int x2), (3, .ref z_36), (4, .long x4), (6, .int x6)] := hl
        refine lv_aload_n hx hb dX5_findPointsNear_39 rfl (lv_at hl 0 rfl) ?_
        refine lv_aload_n hx hb dX5_findPointsNear_40 rfl (lv_at hl 3 rfl) ?_
        refine lv_iload hx hb dX5_findPointsNear_41 (lv_at hl 5 rfl) ?_
        refine lv_iload_n hx hb dX5_findPointsNear_43 rfl (lv_at hl 1 rfl) ?_
        obtain ⟨r_44, e_44, h⟩ := bnd_of h
        refine callP (W.runV (As := [va_rf (some z_36), .int x6, .int x1]) C (cS_isNear e_44 (pr_in hq_36)) (cwV 3 hts gX5_findPointsNear_X5_isNear rfl rfl rfl (by decide +kernel) ⟨by decide, by decide⟩) (preR (recv_599 hw.1) hw.1) rfl rfl hl.1 rfl (lv_room (Nat.le_of_ble_eq_true rfl)) dX5_findPointsNear_44 ⟨Nat.zero_le _, Nat.zero_le _⟩) ?_
        refine lv_if_eq (tgt := 59) hx hb dX5_findPointsNear_47 (by decide) (fun c_47 => ?_) (fun c_47 => ?_)
        · have h := zz_pos c_47 h
          refine lv_iinc (v := (x6 + 1)) (lv' := [(6, .int (x6 + 1)), (0, .ref (ρ 599)), (1, .int x1), (2, .int x2), (3, .ref z_36), (4, .long x4)]) hx hb dX5_findPointsNear_59 hl (k := 5) rfl rfl (by decide) rfl (fun ls hl => ?_)
          refine lv_goto (tgt := 28) hx hb dX5_findPointsNear_62 (by decide) ?_
          exact ih _ _ _ _ _ _ (some z_36) _ _ _ _ h hw hg (pr_in hq_36) (lv_sub hl [1, 2, 3, 4, 5, 0] rfl) hK65
        · have h := zz_neg c_47 h
          refine lv_lload hx hb dX5_findPointsNear_50 (lv_at hl 4 rfl) ?_
          refine lv_lconst (v := (1 : Int64)) hx hb dX5_findPointsNear_52 (by decide) ?_
          refine lv_iload hx hb dX5_findPointsNear_53 (lv_at hl 5 rfl) ?_
          refine lv_lshl hx hb dX5_findPointsNear_55 rfl ?_
          refine lv_lor hx hb dX5_findPointsNear_56 ?_
          refine lv_lstore (lv' := [(4, .long (x4 ||| ((1 : Int64) <<< (x6.toInt64 &&& 63)))), (0, .ref (ρ 599)), (1, .int x1), (2, .int x2), (3, .ref z_36), (6, .int x6)]) hx hb dX5_findPointsNear_57 hl (by decide) rfl (fun ls hl => ?_)
          refine lv_iinc (v := (x6 + 1)) (lv' := [(6, .int (x6 + 1)), (4, .long (x4 ||| ((1 : Int64) <<< (x6.toInt64 &&& 63)))), (0, .ref (ρ 599)), (1, .int x1), (2, .int x2), (3, .ref z_36)]) hx hb dX5_findPointsNear_59 hl (k := 5) rfl rfl (by decide) rfl (fun ls hl => ?_)
          refine lv_goto (tgt := 28) hx hb dX5_findPointsNear_62 (by decide) ?_
          exact ih _ _ _ _ _ _ (some z_36) _ _ _ _ h hw hg (pr_in hq_36) (lv_sub hl [2, 3, 4, 5, 1, 0] rfl) hK65
set_option maxRecDepth 100000 in
set_option maxHeartbeats 4000000 in
theorem wS_findPointsNear_L2 {p : Program} {l : Launch} {e : Env} {s : State} {m : MethodId} {args : Array Value} {below : List Frame} {meth : Method} {c : Code} {D : va_G} {κ : Nat → ClassId} {ρ : Nat → Nat} {g0 : Gh} (C : CallFix p m c cX5_findPointsNear 7 s args wsX5_findPointsNear RX5) (hr : meth.sig.returnType = none) (hlk : meth.locks = false) {N : Nat} {q : CSt} : ∀ (n : Nat) (σ : CSt) (x1 : Int32) (x2 : Int32) (g : Gh) (H : Heap) (locs : List Loc) (ls : Array Slot), fS_findPointsNear_L2 N n σ x1 x2 = some q → WC D κ ρ (AC ρ g0 s.heap.size) s.heap g σ s H locs → sub g0 g → lv_has ls 7 [(0, .ref (ρ 599)), (1, .int x1), (2, .int x2)] → W p l e ({ frames := 3, cells := 0, slots := 0, locals := 64 } : Room) s m args below meth c H locs 0 0 (MQ below (QC D κ ρ s.heap.size g0 q none) args s 0 0 (AC ρ g0 s.heap.size)) (F0 m 2 ls []) := by
  have hx := C.1
  have hb := C.2.1
  have hts := C.2.2.2.2
  have hown := C.2.2.2.1
  have k_27 := hts (.fieldLink RX5 27 "PlanCabinet$Spans" "pointsNear" "[J") (by decide +kernel)
  have k_34 := hts (.fieldLink RX5 34 "PlanCabinet$Spans" "count" "I") (by decide +kernel)
  have in_5 : ∀ w ∈ wsX50, w ∈ wsX5_findPointsNear := by decide +kernel
  intro n
  induction n with
  | zero =>
    intro σ x1 x2 g H locs ls h hw hg hl
    rw [fS_findPointsNear_L2] at h
    cases h
  | succ n ih =>
    intro σ x1 x2 g H locs ls h hw hg hl
    rw [fS_findPointsNear_L2] at h
    refine lv_iload_n hx hb dX5_findPointsNear_2 rfl (lv_at hl 2 rfl) ?_
    refine lv_aload_n hx hb dX5_findPointsNear_3 rfl (lv_at hl 0 rfl) ?_
    refine cG_500 C in_5 hw.1 k_34 dX5_findPointsNear_4 ?_
    refine lv_icmp_ge (tgt := 79) hx hb dX5_findPointsNear_7 (by decide) (fun c_7 => ?_) (fun c_7 => ?_)
    · have h := zz_pos c_7 h
      exact W.vret hx hb hr (fun t ht hW => QC.of rfl (by rw [← some_of h]; exact hw) hg ht hW) hw.2.2.2.2 dX5_findPointsNear_79
    · have h := zz_neg c_7 h
      refine lv_iload_n hx hb dX5_findPointsNear_10 rfl (lv_at hl 2 rfl) ?_
      refine lv_bipush (v := (16 : Int32)) hx hb dX5_findPointsNear_11 (by decide) ?_
      refine lv_icmp_ge (tgt := 79) hx hb dX5_findPointsNear_13 (by decide) (fun c_13 => ?_) (fun c_13 => ?_)
      · have h := zz_pos c_13 h
        exact W.vret hx hb hr (fun t ht hW => QC.of rfl (by rw [← some_of h]; exact hw) hg ht hW) hw.2.2.2.2 dX5_findPointsNear_79
      · have h := zz_neg c_13 h
        refine lv_aload_n hx hb dX5_findPointsNear_16 rfl (lv_at hl 0 rfl) ?_
        refine lv_iload_n hx hb dX5_findPointsNear_17 rfl (lv_at hl 2 rfl) ?_
        obtain ⟨r_18, e_18, h⟩ := bnd_of h
        refine callPq (W.runV (As := [.int x2]) C (cS_planOf e_18) (cwV 1 hts gX5_findPointsNear_X5_planOf rfl rfl rfl (by decide +kernel) ⟨by decide, by decide⟩) (preR (recv_599 hw.1) hw.1) rfl rfl hl.1 rfl (lv_room (Nat.le_of_ble_eq_true rfl)) dX5_findPointsNear_18 ⟨Nat.zero_le _, Nat.zero_le _⟩) (fun z_18 hp_18 => ?_)
        refine cAstore_n (lv' := [(3, va_rf z_18), (0, .ref (ρ 599)), (1, .int x1), (2, .int x2)]) hx hb dX5_findPointsNear_21 rfl hl (by decide) rfl (fun ls hl => ?_)
        refine lv_lconst (v := (0 : Int64)) hx hb dX5_findPointsNear_22 (by decide) ?_
        refine lv_lstore (lv' := [(4, .long (0 : Int64)), (3, va_rf z_18), (0, .ref (ρ 599)), (1, .int x1), (2, .int x2)]) hx hb dX5_findPointsNear_23 hl (by decide) (by cases z_18 <;> rfl) (fun ls hl => ?_)
        refine lv_iconst (v := (0 : Int32)) hx hb dX5_findPointsNear_25 (by decide) ?_
        refine lv_istore (lv' := [(6, .int (0 : Int32)), (4, .long (0 : Int64)), (3, va_rf z_18), (0, .ref (ρ 599)), (1, .int x1), (2, .int x2)]) hx hb dX5_findPointsNear_26 hl (by decide) rfl (fun ls hl => ?_)
        refine wS_findPointsNear_L28 C hr hlk  _ _ _ _ _ _ _ z_18 _ _ _ _ h hw hg hp_18 (lv_sub hl [3, 4, 5, 2, 1, 0] rfl) ?_
        intro σ x1 x2 x4 g H locs ls h hw hg hl
        refine lv_aload_n hx hb dX5_findPointsNear_65 rfl (lv_at hl 0 rfl) ?_
        refine cG_506 C in_5 hw.1 k_27 dX5_findPointsNear_66 ?_
        refine lv_iload_n hx hb dX5_findPointsNear_69 rfl (lv_at hl 2 rfl) ?_
        refine lv_lload hx hb dX5_findPointsNear_70 (lv_at hl 3 rfl) ?_
        obtain ⟨b_72, h⟩ := chk_of h
        refine cS_506 C hw b_72 dX5_findPointsNear_72 (fun H locs hw => ?_)
        refine lv_iinc (v := (x2 + 1)) (lv' := [(2, .int (x2 + 1)), (0, .ref (ρ 599)), (1, .int x1), (4, .long x4)]) hx hb dX5_findPointsNear_73 hl (k := 2) rfl rfl (by decide) rfl (fun ls hl => ?_)
        refine lv_goto (tgt := 2) hx hb dX5_findPointsNear_76 (by decide) ?_
        exact ih _ _ _ _ _ _ _ h hw hg (lv_sub hl [1, 2, 0] rfl)
set_option maxRecDepth 100000 in
set_option maxHeartbeats 4000000 in
theorem cS_findPointsNear {l : Launch} {D : va_G} {κ : Nat → ClassId} {ρ : Nat → Nat} {g0 : Gh} {sz : Nat} {N : Nat} {σ : CSt} {x1 : Int32} {q : CSt} (h : fS_findPointsNear N σ x1 = some q) : Met l yX5_findPointsNear wsX5_findPointsNear ({ frames := 3, cells := 0, slots := 0, locals := 64 } : Room) (va_Pc [.ref (ρ 599), .int x1] (PC D κ ρ sz g0 σ)) (QC D κ ρ sz g0 q none) 0 0 (AC ρ g0 sz) := by
  refine cMetM (Qc := fun z => QC D κ ρ z g0 q none) (ret := none) (by decide) rfl rfl (Nat.le_of_ble_eq_true rfl) ?_
  intro p e s m below meth c ls C hr hlk hw hl
  obtain ⟨g, eg⟩ : ∃ x, x = g0 := ⟨_, rfl⟩
  have hw : WC D κ ρ (AC ρ g0 s.heap.size) s.heap g σ s s.heap [] := by rw [eg]; exact hw
  have hg : sub g0 g := by rw [eg]; exact sub_rf g0
  have hl : lv_has ls 7 [(0, .ref (ρ 599)), (1, .int x1)] := hl
  unfold fS_findPointsNear at h
  have hx := C.1
  have hb := C.2.1
  have hts := C.2.2.2.2
  have hown := C.2.2.2.1
  refine lv_iconst (v := (0 : Int32)) hx hb dX5_findPointsNear_0 (by decide) ?_
  refine lv_istore_n (lv' := [(2, .int (0 : Int32)), (0, .ref (ρ 599)), (1, .int x1)]) hx hb dX5_findPointsNear_1 rfl hl (by decide) rfl (fun ls hl => ?_)
  exact wS_findPointsNear_L2 C hr hlk  _ _ _ _ _ _ _ _ h hw hg (lv_sub hl [1, 2, 0] rfl)
def fS_isSetBefore (N : Nat) (x0 : Int32) (x1 : Int32) : Option (Int32) := (fJ_bitCount_0f7a4 N x0).bind fun r_1 => (fJ_bitCount_0f7a4 N x1).bind fun r_5 => (if (r_1 - r_5) = 0 then (if ((x0 &&& (x0 ^^^ x1)) &&& (-(x0 ^^^ x1))) = 0 then some (0 : Int32) else some (1 : Int32)) else (if 0 ≤ (r_1 - r_5) then some (0 : Int32) else some (1 : Int32)))
set_option maxRecDepth 100000 in
set_option maxHeartbeats 4000000 in
theorem cS_isSetBefore {l : Launch} {N : Nat}  {x0 : Int32} {x1 : Int32} {r : Int32} (h : fS_isSetBefore N x0 x1 = some r) : Met l yX5_isSetBefore wsX5_isSetBefore ({ frames := 1, cells := 0, slots := 0, locals := 20 } : Room) (va_Pc [.int x0, .int x1] (fun _ => True)) (PU (some (.int r))) 0 0 (fun _ => False) := by
  refine sMet (ret := (some .boolean)) (by decide) rfl rfl (Nat.le_of_ble_eq_true rfl) ?_
  intro p e s m below meth c ls C hr hlk hl
  have hl : lv_has ls 4 [(0, .int x0), (1, .int x1)] := hl
  unfold fS_isSetBefore at h
  have hx := C.1
  have hb := C.2.1
  have hts := C.2.2.2.2
  have hown := C.2.2.2.1
  refine lv_iload_n hx hb dX5_isSetBefore_0 rfl (lv_at hl 0 rfl) ?_
  obtain ⟨r_1, e_1, h⟩ := bnd_of h
  refine callP (W.runS (As := [.int x0]) C (cJ_bitCount_0f7a4 e_1) (va_cwS 1 hts gX5_isSetBefore_J6_bitCount_0f7a4 rfl rfl rfl (by decide +kernel) ⟨by decide, by decide⟩) preT rfl rfl hl.1 rfl (lv_room (Nat.le_of_ble_eq_true rfl)) dX5_isSetBefore_1 ⟨Nat.zero_le _, Nat.zero_le _⟩) ?_
  refine lv_iload_n hx hb dX5_isSetBefore_4 rfl (lv_at hl 1 rfl) ?_
  obtain ⟨r_5, e_5, h⟩ := bnd_of h
  refine callP (W.runS (As := [.int x1]) C (cJ_bitCount_0f7a4 e_5) (va_cwS 1 hts gX5_isSetBefore_J6_bitCount_0f7a4 rfl rfl rfl (by decide +kernel) ⟨by decide, by decide⟩) preT rfl rfl hl.1 rfl (lv_room (Nat.le_of_ble_eq_true rfl)) dX5_isSetBefore_5 ⟨Nat.zero_le _, Nat.zero_le _⟩) ?_
  refine lv_isub hx hb dX5_isSetBefore_8 ?_
  refine lv_istore_n (lv' := [(2, .int (r_1 - r_5)), (0, .int x0), (1, .int x1)]) hx hb dX5_isSetBefore_9 rfl hl (by decide) rfl (fun ls hl => ?_)
  refine lv_iload_n hx hb dX5_isSetBefore_10 rfl (lv_at hl 0 rfl) ?_
  refine lv_if_eq (tgt := 24) hx hb dX5_isSetBefore_11 (by decide) (fun c_11 => ?_) (fun c_11 => ?_)
  · have h := zz_pos c_11 h
    refine lv_iload_n hx hb dX5_isSetBefore_24 rfl (lv_at hl 1 rfl) ?_
    refine lv_iload_n hx hb dX5_isSetBefore_25 rfl (lv_at hl 2 rfl) ?_
    refine lv_ixor hx hb dX5_isSetBefore_26 ?_
    refine lv_istore_n (lv' := [(3, .int (x0 ^^^ x1)), (2, .int (r_1 - r_5)), (0, .int x0), (1, .int x1)]) hx hb dX5_isSetBefore_27 rfl hl (by decide) rfl (fun ls hl => ?_)
    refine lv_iload_n hx hb dX5_isSetBefore_28 rfl (lv_at hl 2 rfl) ?_
    refine lv_iload_n hx hb dX5_isSetBefore_29 rfl (lv_at hl 0 rfl) ?_
    refine lv_iand hx hb dX5_isSetBefore_30 ?_
    refine lv_iload_n hx hb dX5_isSetBefore_31 rfl (lv_at hl 0 rfl) ?_
    refine lv_ineg hx hb dX5_isSetBefore_32 ?_
    refine lv_iand hx hb dX5_isSetBefore_33 ?_
    refine lv_if_eq (tgt := 41) hx hb dX5_isSetBefore_34 (by decide) (fun c_34 => ?_) (fun c_34 => ?_)
    · have h := zz_pos c_34 h
      refine lv_iconst (v := (0 : Int32)) hx hb dX5_isSetBefore_41 (by decide) ?_
      exact W.zret (ty := .boolean) hx hb hr (by decide +kernel) (fun t ht hW => ⟨by rw [some_of h], ht⟩) (fun _ h => by cases h) dX5_isSetBefore_42
    · have h := zz_neg c_34 h
      refine lv_iconst (v := (1 : Int32)) hx hb dX5_isSetBefore_37 (by decide) ?_
      refine lv_goto (tgt := 42) hx hb dX5_isSetBefore_38 (by decide) ?_
      exact W.zret (ty := .boolean) hx hb hr (by decide +kernel) (fun t ht hW => ⟨by rw [some_of h], ht⟩) (fun _ h => by cases h) dX5_isSetBefore_42
  · have h := zz_neg c_11 h
    refine lv_iload_n hx hb dX5_isSetBefore_14 rfl (lv_at hl 0 rfl) ?_
    refine lv_if_ge (tgt := 22) hx hb dX5_isSetBefore_15 (by decide) (fun c_15 => ?_) (fun c_15 => ?_)
    · have h := zz_pos c_15 h
      refine lv_iconst (v := (0 : Int32)) hx hb dX5_isSetBefore_22 (by decide) ?_
      exact W.zret (ty := .boolean) hx hb hr (by decide +kernel) (fun t ht hW => ⟨by rw [some_of h], ht⟩) (fun _ h => by cases h) dX5_isSetBefore_23
    · have h := zz_neg c_15 h
      refine lv_iconst (v := (1 : Int32)) hx hb dX5_isSetBefore_18 (by decide) ?_
      refine lv_goto (tgt := 23) hx hb dX5_isSetBefore_19 (by decide) ?_
      exact W.zret (ty := .boolean) hx hb hr (by decide +kernel) (fun t ht hW => ⟨by rw [some_of h], ht⟩) (fun _ h => by cases h) dX5_isSetBefore_23
