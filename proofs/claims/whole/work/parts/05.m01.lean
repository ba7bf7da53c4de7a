/-! the reference: add, lastOf, joinAll, isSortedSo, end, list, find, kept, isPlan, read, join, code, isWholePlan, about -/
def fM_add (N : Nat) (σ : MSt) (x1 : Int32) (x2 : Int32) (x3 : Int32) (x4 : Int64) (x6 : Int64) : Option (MSt) := chk (σ.1 22) 5000 (chk ((sA σ 17 (σ.1 22).toNatClampNeg x1).1 22) 5000 (chk ((sA (sA σ 17 (σ.1 22).toNatClampNeg x1) 18 ((sA σ 17 (σ.1 22).toNatClampNeg x1).1 22).toNatClampNeg x2).1 22) 5000 (chk ((sA (sA (sA σ 17 (σ.1 22).toNatClampNeg x1) 18 ((sA σ 17 (σ.1 22).toNatClampNeg x1).1 22).toNatClampNeg x2) 19 ((sA (sA σ 17 (σ.1 22).toNatClampNeg x1) 18 ((sA σ 17 (σ.1 22).toNatClampNeg x1).1 22).toNatClampNeg x2).1 22).toNatClampNeg x3).1 22) 5000 (chk ((sB (sA (sA (sA σ 17 (σ.1 22).toNatClampNeg x1) 18 ((sA σ 17 (σ.1 22).toNatClampNeg x1).1 22).toNatClampNeg x2) 19 ((sA (sA σ 17 (σ.1 22).toNatClampNeg x1) 18 ((sA σ 17 (σ.1 22).toNatClampNeg x1).1 22).toNatClampNeg x2).1 22).toNatClampNeg x3) 20 ((sA (sA (sA σ 17 (σ.1 22).toNatClampNeg x1) 18 ((sA σ 17 (σ.1 22).toNatClampNeg x1).1 22).toNatClampNeg x2) 19 ((sA (sA σ 17 (σ.1 22).toNatClampNeg x1) 18 ((sA σ 17 (σ.1 22).toNatClampNeg x1).1 22).toNatClampNeg x2).1 22).toNatClampNeg x3).1 22).toNatClampNeg x4).1 22) 5000 (some (sI (sB (sB (sA (sA (sA σ 17 (σ.1 22).toNatClampNeg x1) 18 ((sA σ 17 (σ.1 22).toNatClampNeg x1).1 22).toNatClampNeg x2) 19 ((sA (sA σ 17 (σ.1 22).toNatClampNeg x1) 18 ((sA σ 17 (σ.1 22).toNatClampNeg x1).1 22).toNatClampNeg x2).1 22).toNatClampNeg x3) 20 ((sA (sA (sA σ 17 (σ.1 22).toNatClampNeg x1) 18 ((sA σ 17 (σ.1 22).toNatClampNeg x1).1 22).toNatClampNeg x2) 19 ((sA (sA σ 17 (σ.1 22).toNatClampNeg x1) 18 ((sA σ 17 (σ.1 22).toNatClampNeg x1).1 22).toNatClampNeg x2).1 22).toNatClampNeg x3).1 22).toNatClampNeg x4) 21 ((sB (sA (sA (sA σ 17 (σ.1 22).toNatClampNeg x1) 18 ((sA σ 17 (σ.1 22).toNatClampNeg x1).1 22).toNatClampNeg x2) 19 ((sA (sA σ 17 (σ.1 22).toNatClampNeg x1) 18 ((sA σ 17 (σ.1 22).toNatClampNeg x1).1 22).toNatClampNeg x2).1 22).toNatClampNeg x3) 20 ((sA (sA (sA σ 17 (σ.1 22).toNatClampNeg x1) 18 ((sA σ 17 (σ.1 22).toNatClampNeg x1).1 22).toNatClampNeg x2) 19 ((sA (sA σ 17 (σ.1 22).toNatClampNeg x1) 18 ((sA σ 17 (σ.1 22).toNatClampNeg x1).1 22).toNatClampNeg x2).1 22).toNatClampNeg x3).1 22).toNatClampNeg x4).1 22).toNatClampNeg x6) 22 (((sB (sB (sA (sA (sA σ 17 (σ.1 22).toNatClampNeg x1) 18 ((sA σ 17 (σ.1 22).toNatClampNeg x1).1 22).toNatClampNeg x2) 19 ((sA (sA σ 17 (σ.1 22).toNatClampNeg x1) 18 ((sA σ 17 (σ.1 22).toNatClampNeg x1).1 22).toNatClampNeg x2).1 22).toNatClampNeg x3) 20 ((sA (sA (sA σ 17 (σ.1 22).toNatClampNeg x1) 18 ((sA σ 17 (σ.1 22).toNatClampNeg x1).1 22).toNatClampNeg x2) 19 ((sA (sA σ 17 (σ.1 22).toNatClampNeg x1) 18 ((sA σ 17 (σ.1 22).toNatClampNeg x1).1 22).toNatClampNeg x2).1 22).toNatClampNeg x3).1 22).toNatClampNeg x4) 21 ((sB (sA (sA (sA σ 17 (σ.1 22).toNatClampNeg x1) 18 ((sA σ 17 (σ.1 22).toNatClampNeg x1).1 22).toNatClampNeg x2) 19 ((sA (sA σ 17 (σ.1 22).toNatClampNeg x1) 18 ((sA σ 17 (σ.1 22).toNatClampNeg x1).1 22).toNatClampNeg x2).1 22).toNatClampNeg x3) 20 ((sA (sA (sA σ 17 (σ.1 22).toNatClampNeg x1) 18 ((sA σ 17 (σ.1 22).toNatClampNeg x1).1 22).toNatClampNeg x2) 19 ((sA (sA σ 17 (σ.1 22).toNatClampNeg x1) 18 ((sA σ 17 (σ.1 22).toNatClampNeg x1).1 22).toNatClampNeg x2).1 22).toNatClampNeg x3).1 22).toNatClampNeg x4).1 22).toNatClampNeg x6).1 22) + (1 : Int32))))))))
set_option maxRecDepth 100000 in
set_option maxHeartbeats 4000000 in
theorem cM_add {l : Launch} {D : va_G} {κ : Nat → ClassId} {ρ : Nat → Nat} {sz : Nat} {N : Nat} {σ : MSt} {x1 : Int32} {x2 : Int32} {x3 : Int32} {x4 : Int64} {x6 : Int64} {q : MSt} (h : fM_add N σ x1 x2 x3 x4 x6 = some q) : Met l yX7_add wsX7_add ({ frames := 0, cells := 0, slots := 0, locals := 0 } : Room) (va_Pc [.ref (ρ 40), .int x1, .int x2, .int x3, .long x4, .long x6] (PM D κ ρ sz σ)) (QM D κ ρ sz q none) 0 0 (AM ρ sz) := by
  refine mMetM (ret := none) (by decide) rfl rfl (Nat.le_of_ble_eq_true rfl) ?_
  intro p e s m below meth c ls C hr hlk hD hP hl
  have hS : va_S (AM ρ s.heap.size) s.heap s.heap [] := va_S.rf
  have hl : lv_has ls 8 [(0, .ref (ρ 40)), (1, .int x1), (2, .int x2), (3, .int x3), (4, .long x4), (6, .long x6)] := hl
  unfold fM_add at h
  have hx := C.1.1
  have hb := C.1.2.1
  have hts := C.1.2.2.2.2
  have hown := C.1.2.2.2.1
  have k_63 := hts (.fieldLink RX7 63 "PlanCabinetModel" "code" "[I") (by decide +kernel)
  have k_66 := hts (.fieldLink RX7 66 "PlanCabinetModel" "leftSet" "[I") (by decide +kernel)
  have k_69 := hts (.fieldLink RX7 69 "PlanCabinetModel" "kindOf" "[I") (by decide +kernel)
  have k_72 := hts (.fieldLink RX7 72 "PlanCabinetModel" "priceA" "[J") (by decide +kernel)
  have k_76 := hts (.fieldLink RX7 76 "PlanCabinetModel" "priceB" "[J") (by decide +kernel)
  have k_79 := hts (.fieldLink RX7 79 "PlanCabinetModel" "listed" "I") (by decide +kernel)
  have in_7 : ∀ w ∈ wsX70, w ∈ wsX7_add := by decide +kernel
  refine lv_aload_n hx hb dX7_add_0 rfl (lv_at hl 0 rfl) ?_
  refine mG_17 C in_7 hP k_63 dX7_add_1 ?_
  refine lv_aload_n hx hb dX7_add_4 rfl (lv_at hl 0 rfl) ?_
  refine mG_22 C in_7 hP k_79 dX7_add_5 ?_
  refine lv_iload_n hx hb dX7_add_8 rfl (lv_at hl 1 rfl) ?_
  obtain ⟨b_9, h⟩ := chk_of h
  refine mS_17 C hP hD hS b_9 dX7_add_9 (fun H locs hP hS => ?_)
  refine lv_aload_n hx hb dX7_add_10 rfl (lv_at hl 0 rfl) ?_
  refine mG_18 C in_7 hP k_66 dX7_add_11 ?_
  refine lv_aload_n hx hb dX7_add_14 rfl (lv_at hl 0 rfl) ?_
  refine mG_22 C in_7 hP k_79 dX7_add_15 ?_
  refine lv_iload_n hx hb dX7_add_18 rfl (lv_at hl 2 rfl) ?_
  obtain ⟨b_19, h⟩ := chk_of h
  refine mS_18 C hP hD hS b_19 dX7_add_19 (fun H locs hP hS => ?_)
  refine lv_aload_n hx hb dX7_add_20 rfl (lv_at hl 0 rfl) ?_
  refine mG_19 C in_7 hP k_69 dX7_add_21 ?_
  refine lv_aload_n hx hb dX7_add_24 rfl (lv_at hl 0 rfl) ?_
  refine mG_22 C in_7 hP k_79 dX7_add_25 ?_
  refine lv_iload_n hx hb dX7_add_28 rfl (lv_at hl 3 rfl) ?_
  obtain ⟨b_29, h⟩ := chk_of h
  refine mS_19 C hP hD hS b_29 dX7_add_29 (fun H locs hP hS => ?_)
  refine lv_aload_n hx hb dX7_add_30 rfl (lv_at hl 0 rfl) ?_
  refine mG_20 C in_7 hP k_72 dX7_add_31 ?_
  refine lv_aload_n hx hb dX7_add_34 rfl (lv_at hl 0 rfl) ?_
  refine mG_22 C in_7 hP k_79 dX7_add_35 ?_
  refine lv_lload hx hb dX7_add_38 (lv_at hl 4 rfl) ?_
  obtain ⟨b_40, h⟩ := chk_of h
  refine mS_20 C hP hD hS b_40 dX7_add_40 (fun H locs hP hS => ?_)
  refine lv_aload_n hx hb dX7_add_41 rfl (lv_at hl 0 rfl) ?_
  refine mG_21 C in_7 hP k_76 dX7_add_42 ?_
  refine lv_aload_n hx hb dX7_add_45 rfl (lv_at hl 0 rfl) ?_
  refine mG_22 C in_7 hP k_79 dX7_add_46 ?_
  refine lv_lload hx hb dX7_add_49 (lv_at hl 5 rfl) ?_
  obtain ⟨b_51, h⟩ := chk_of h
  refine mS_21 C hP hD hS b_51 dX7_add_51 (fun H locs hP hS => ?_)
  refine lv_aload_n hx hb dX7_add_52 rfl (lv_at hl 0 rfl) ?_
  refine lv_dup hx hb dX7_add_53 rfl ?_
  refine mG_22 C in_7 hP k_79 dX7_add_54 ?_
  refine lv_iconst (v := (1 : Int32)) hx hb dX7_add_57 (by decide) ?_
  refine lv_iadd hx hb dX7_add_58 ?_
  refine mP_22 C in_7 hP hD hS k_79 dX7_add_59 (fun H locs hP hS => ?_)
  exact W.vret hx hb hr (fun t ht hW => ⟨rfl, by rw [ht, ← some_of h]; exact hP, hS.F ht⟩) hS.2.2 dX7_add_62
def fM_lastOf (N : Nat) (σ : MSt) (x1 : Int32) : Option (Int32) := chk (x1 + (1 : Int32)) 17 (some (σ.2.2.1 16 (x1 + (1 : Int32)).toNatClampNeg))
set_option maxRecDepth 100000 in
set_option maxHeartbeats 4000000 in
theorem cM_lastOf {l : Launch} {D : va_G} {κ : Nat → ClassId} {ρ : Nat → Nat} {N : Nat} {σ : MSt} {x1 : Int32} {r : Int32} (h : fM_lastOf N σ x1 = some r) : Met l yX7_lastOf wsX7_lastOf ({ frames := 0, cells := 0, slots := 0, locals := 0 } : Room) (va_Pc [.ref (ρ 40), .int x1] (PR D κ ρ σ)) (PU (some (.int r))) 0 0 (fun _ => False) := by
  refine mMetR (ret := (some .int)) (by decide) rfl rfl (Nat.le_of_ble_eq_true rfl) ?_
  intro p e s m below meth c ls C hr hlk hP hl
  have hl : lv_has ls 2 [(0, .ref (ρ 40)), (1, .int x1)] := hl
  unfold fM_lastOf at h
  have hx := C.1.1
  have hb := C.1.2.1
  have hts := C.1.2.2.2.2
  have hown := C.1.2.2.2.1
  have k_60 := hts (.fieldLink RX7 60 "PlanCabinetModel" "from" "[I") (by decide +kernel)
  have in_7 : ∀ w ∈ wsX70, w ∈ wsX7_lastOf := by decide +kernel
  refine lv_aload_n hx hb dX7_lastOf_0 rfl (lv_at hl 0 rfl) ?_
  refine mG_16 C in_7 hP k_60 dX7_lastOf_1 ?_
  refine lv_iload_n hx hb dX7_lastOf_4 rfl (lv_at hl 1 rfl) ?_
  refine lv_iconst (v := (1 : Int32)) hx hb dX7_lastOf_5 (by decide) ?_
  refine lv_iadd hx hb dX7_lastOf_6 ?_
  obtain ⟨b_7, h⟩ := chk_of h
  refine mL_16 C hP b_7 dX7_lastOf_7 ?_
  exact W.iret hx hb hr (fun t ht hW => ⟨by rw [some_of h], ht⟩) (fun _ h => by cases h) dX7_lastOf_8
def fM_joinAll_L46 (N : Nat) (K147 : MSt → Int32 → Int32 → Int32 → Int64 → Int64 → Int32 → Option (MSt)) : Nat → MSt → Int32 → Int32 → Int32 → Int64 → Int64 → Int32 → Int32 → Option (MSt)
  | 0, _, _, _, _, _, _, _, _ => none
  | n + 1, σ, x2, x3, x4, x5, x7, x9, x10 => (fM_lastOf N σ x3).bind fun r_50 => (if r_50 ≤ x10 then K147 σ x2 x3 x4 x5 x7 x9 else (fM_digits N σ x2).bind fun r_64 => (fM_shifted N σ ((4 : Int32) + x4) r_64).bind fun r_67 => chk x9 5000 ((fM_digits N σ x3).bind fun r_80 => (fM_shifted N σ (r_67 + (σ.2.2.1 17 x9.toNatClampNeg)) r_80).bind fun r_83 => chk x10 5000 (chk x9 5000 (chk x10 5000 (chk x9 5000 (chk x10 5000 ((fM_add N σ (r_83 + (σ.2.2.1 17 x10.toNatClampNeg)) x2 x4 (((σ.2.2.2 20 x9.toNatClampNeg) + (σ.2.2.2 20 x10.toNatClampNeg)) + x5) (((σ.2.2.2 21 x9.toNatClampNeg) + (σ.2.2.2 21 x10.toNatClampNeg)) + x7)).bind fun r_138 => fM_joinAll_L46 N K147 n r_138 x2 x3 x4 x5 x7 x9 (x10 + 1))))))))
def fM_joinAll_L28 (N : Nat) : Nat → MSt → Int32 → Int32 → Int32 → Int64 → Int64 → Int32 → Option (MSt)
  | 0, _, _, _, _, _, _, _ => none
  | n + 1, σ, x2, x3, x4, x5, x7, x9 => (fM_lastOf N σ x2).bind fun r_32 => (if r_32 ≤ x9 then some σ else chk x3 17 (fM_joinAll_L46 N (fun (σ : MSt) (x2 : Int32) (x3 : Int32) (x4 : Int32) (x5 : Int64) (x7 : Int64) (x9 : Int32) => fM_joinAll_L28 N n σ x2 x3 x4 x5 x7 (x9 + 1)) N σ x2 x3 x4 x5 x7 x9 (σ.2.2.1 16 x3.toNatClampNeg)))
def fM_joinAll (N : Nat) (σ : MSt) (x1 : Int32) (x2 : Int32) (x3 : Int32) (x4 : Int32) : Option (MSt) := (fM_joining N σ x4 x2 x3).bind fun r_5 => chk x2 17 (fM_joinAll_L28 N N r_5 x2 x3 x4 (r_5.2.1 14) (r_5.2.1 15) (r_5.2.2.1 16 x2.toNatClampNeg))
set_option maxRecDepth 100000 in
set_option maxHeartbeats 4000000 in
theorem wM_joinAll_L46 {p : Program} {l : Launch} {e : Env} {s : State} {m : MethodId} {args : Array Value} {below : List Frame} {meth : Method} {c : Code} {D : va_G} {κ : Nat → ClassId} {ρ : Nat → Nat} (C : MC p m c cX7_joinAll 12 s args wsX7_joinAll D κ) (hr : meth.sig.returnType = none) (hlk : meth.locks = false) (hD : DM (AM ρ s.heap.size) ρ) {N : Nat} {q : MSt} {K147 : MSt → Int32 → Int32 → Int32 → Int64 → Int64 → Int32 → Option (MSt)} : ∀ (n : Nat) (σ : MSt) (x2 : Int32) (x3 : Int32) (x4 : Int32) (x5 : Int64) (x7 : Int64) (x9 : Int32) (x10 : Int32) (H : Heap) (locs : List Loc) (ls : Array Slot), fM_joinAll_L46 N K147 n σ x2 x3 x4 x5 x7 x9 x10 = some q → va_P D vwCl (cellsM κ ρ σ) H → va_S (AM ρ s.heap.size) s.heap H locs → lv_has ls 12 [(0, .ref (ρ 40)), (2, .int x2), (3, .int x3), (4, .int x4), (5, .long x5), (7, .long x7), (9, .int x9), (10, .int x10)] → (∀ (σ : MSt) (x2 : Int32) (x3 : Int32) (x4 : Int32) (x5 : Int64) (x7 : Int64) (x9 : Int32) (H : Heap) (locs : List Loc) (ls : Array Slot), K147 σ x2 x3 x4 x5 x7 x9 = some q → va_P D vwCl (cellsM κ ρ σ) H → va_S (AM ρ s.heap.size) s.heap H locs → lv_has ls 12 [(0, .ref (ρ 40)), (2, .int x2), (3, .int x3), (4, .int x4), (5, .long x5), (7, .long x7), (9, .int x9)] → W p l e ({ frames := 2, cells := 0, slots := 0, locals := 59 } : Room) s m args below meth c H locs 0 0 (MQ below (QM D κ ρ s.heap.size q none) args s 0 0 (AM ρ s.heap.size)) (F0 m 147 ls [])) → W p l e ({ frames := 2, cells := 0, slots := 0, locals := 59 } : Room) s m args below meth c H locs 0 0 (MQ below (QM D κ ρ s.heap.size q none) args s 0 0 (AM ρ s.heap.size)) (F0 m 46 ls []) := by
  have hx := C.1.1
  have hb := C.1.2.1
  have hts := C.1.2.2.2.2
  have hown := C.1.2.2.2.1
  have k_63 := hts (.fieldLink RX7 63 "PlanCabinetModel" "code" "[I") (by decide +kernel)
  have k_72 := hts (.fieldLink RX7 72 "PlanCabinetModel" "priceA" "[J") (by decide +kernel)
  have k_76 := hts (.fieldLink RX7 76 "PlanCabinetModel" "priceB" "[J") (by decide +kernel)
  have in_7 : ∀ w ∈ wsX70, w ∈ wsX7_joinAll := by decide +kernel
  intro n
  induction n with
  | zero =>
    intro σ x2 x3 x4 x5 x7 x9 x10 H locs ls h hP hS hl hK147
    rw [fM_joinAll_L46] at h
    cases h
  | succ n ih =>
    intro σ x2 x3 x4 x5 x7 x9 x10 H locs ls h hP hS hl hK147
    rw [fM_joinAll_L46] at h
    refine lv_iload hx hb dX7_joinAll_46 (lv_at hl 7 rfl) ?_
    refine lv_aload_n hx hb dX7_joinAll_48 rfl (lv_at hl 0 rfl) ?_
    refine lv_iload_n hx hb dX7_joinAll_49 rfl (lv_at hl 2 rfl) ?_
    obtain ⟨r_50, e_50, h⟩ := bnd_of h
    refine callP (W.runV (As := [.int x3]) C.1 (cM_lastOf e_50) (cwV 1 hts gX7_joinAll_X7_lastOf rfl rfl rfl (by decide +kernel) ⟨by decide, by decide⟩) (mPreR C.2 hP _) rfl rfl hl.1 rfl (lv_room (Nat.le_of_ble_eq_true rfl)) dX7_joinAll_50 ⟨Nat.zero_le _, Nat.zero_le _⟩) ?_
    refine lv_icmp_ge (tgt := 147) hx hb dX7_joinAll_53 (by decide) (fun c_53 => ?_) (fun c_53 => ?_)
    · have h := zz_pos c_53 h
      exact hK147 _ _ _ _ _ _ _ _ _ _ h hP hS (lv_sub hl [0, 1, 2, 3, 4, 5, 6] rfl)
    · have h := zz_neg c_53 h
      refine lv_aload_n hx hb dX7_joinAll_56 rfl (lv_at hl 0 rfl) ?_
      refine lv_aload_n hx hb dX7_joinAll_57 rfl (lv_at hl 0 rfl) ?_
      refine lv_iconst (v := (4 : Int32)) hx hb dX7_joinAll_58 (by decide) ?_
      refine lv_iload hx hb dX7_joinAll_59 (lv_at hl 3 rfl) ?_
      refine lv_iadd hx hb dX7_joinAll_61 ?_
      refine lv_aload_n hx hb dX7_joinAll_62 rfl (lv_at hl 0 rfl) ?_
      refine lv_iload_n hx hb dX7_joinAll_63 rfl (lv_at hl 1 rfl) ?_
      obtain ⟨r_64, e_64, h⟩ := bnd_of h
      refine callP (W.runV (As := [.int x2]) C.1 (cM_digits e_64) (cwV 1 hts gX7_joinAll_X7_digits rfl rfl rfl (by decide +kernel) ⟨by decide, by decide⟩) (mPreR C.2 hP _) rfl rfl hl.1 rfl (lv_room (Nat.le_of_ble_eq_true rfl)) dX7_joinAll_64 ⟨Nat.zero_le _, Nat.zero_le _⟩) ?_
      obtain ⟨r_67, e_67, h⟩ := bnd_of h
      refine callP (W.runV (As := [.int ((4 : Int32) + x4), .int r_64]) C.1 (cM_shifted e_67) (cwV 2 hts gX7_joinAll_X7_shifted rfl rfl rfl (by decide +kernel) ⟨by decide, by decide⟩) (mPreR C.2 hP _) rfl rfl hl.1 rfl (lv_room (Nat.le_of_ble_eq_true rfl)) dX7_joinAll_67 ⟨Nat.zero_le _, Nat.zero_le _⟩) ?_
      refine lv_aload_n hx hb dX7_joinAll_70 rfl (lv_at hl 0 rfl) ?_
      refine mG_17 C in_7 hP k_63 dX7_joinAll_71 ?_
      refine lv_iload hx hb dX7_joinAll_74 (lv_at hl 6 rfl) ?_
      obtain ⟨b_76, h⟩ := chk_of h
      refine mL_17 C hP b_76 dX7_joinAll_76 ?_
      refine lv_iadd hx hb dX7_joinAll_77 ?_
      refine lv_aload_n hx hb dX7_joinAll_78 rfl (lv_at hl 0 rfl) ?_
      refine lv_iload_n hx hb dX7_joinAll_79 rfl (lv_at hl 2 rfl) ?_
      obtain ⟨r_80, e_80, h⟩ := bnd_of h
      refine callP (W.runV (As := [.int x3]) C.1 (cM_digits e_80) (cwV 1 hts gX7_joinAll_X7_digits rfl rfl rfl (by decide +kernel) ⟨by decide, by decide⟩) (mPreR C.2 hP _) rfl rfl hl.1 rfl (lv_room (Nat.le_of_ble_eq_true rfl)) dX7_joinAll_80 ⟨Nat.zero_le _, Nat.zero_le _⟩) ?_
      obtain ⟨r_83, e_83, h⟩ := bnd_of h
      refine callP (W.runV (As := [.int (r_67 + (σ.2.2.1 17 x9.toNatClampNeg)), .int r_80]) C.1 (cM_shifted e_83) (cwV 2 hts gX7_joinAll_X7_shifted rfl rfl rfl (by decide +kernel) ⟨by decide, by decide⟩) (mPreR C.2 hP _) rfl rfl hl.1 rfl (lv_room (Nat.le_of_ble_eq_true rfl)) dX7_joinAll_83 ⟨Nat.zero_le _, Nat.zero_le _⟩) ?_
      refine lv_aload_n hx hb dX7_joinAll_86 rfl (lv_at hl 0 rfl) ?_
      refine mG_17 C in_7 hP k_63 dX7_joinAll_87 ?_
      refine lv_iload hx hb dX7_joinAll_90 (lv_at hl 7 rfl) ?_
      obtain ⟨b_92, h⟩ := chk_of h
      refine mL_17 C hP b_92 dX7_joinAll_92 ?_
      refine lv_iadd hx hb dX7_joinAll_93 ?_
      refine lv_istore (lv' := [(11, .int (r_83 + (σ.2.2.1 17 x10.toNatClampNeg))), (0, .ref (ρ 40)), (2, .int x2), (3, .int x3), (4, .int x4), (5, .long x5), (7, .long x7), (9, .int x9), (10, .int x10)]) hx hb dX7_joinAll_94 hl (by decide) rfl (fun ls hl => ?_)
      refine lv_aload_n hx hb dX7_joinAll_96 rfl (lv_at hl 1 rfl) ?_
      refine lv_iload hx hb dX7_joinAll_97 (lv_at hl 0 rfl) ?_
      refine lv_iload_n hx hb dX7_joinAll_99 rfl (lv_at hl 2 rfl) ?_
      refine lv_iload hx hb dX7_joinAll_100 (lv_at hl 4 rfl) ?_
      refine lv_aload_n hx hb dX7_joinAll_102 rfl (lv_at hl 1 rfl) ?_
      refine mG_20 C in_7 hP k_72 dX7_joinAll_103 ?_
      refine lv_iload hx hb dX7_joinAll_106 (lv_at hl 7 rfl) ?_
      obtain ⟨b_108, h⟩ := chk_of h
      refine mL_20 C hP b_108 dX7_joinAll_108 ?_
      refine lv_aload_n hx hb dX7_joinAll_109 rfl (lv_at hl 1 rfl) ?_
      refine mG_20 C in_7 hP k_72 dX7_joinAll_110 ?_
      refine lv_iload hx hb dX7_joinAll_113 (lv_at hl 8 rfl) ?_
      obtain ⟨b_115, h⟩ := chk_of h
      refine mL_20 C hP b_115 dX7_joinAll_115 ?_
      refine lv_ladd hx hb dX7_joinAll_116 ?_
      refine lv_lload hx hb dX7_joinAll_117 (lv_at hl 5 rfl) ?_
      refine lv_ladd hx hb dX7_joinAll_119 ?_
      refine lv_aload_n hx hb dX7_joinAll_120 rfl (lv_at hl 1 rfl) ?_
      refine mG_21 C in_7 hP k_76 dX7_joinAll_121 ?_
      refine lv_iload hx hb dX7_joinAll_124 (lv_at hl 7 rfl) ?_
      obtain ⟨b_126, h⟩ := chk_of h
      refine mL_21 C hP b_126 dX7_joinAll_126 ?_
      refine lv_aload_n hx hb dX7_joinAll_127 rfl (lv_at hl 1 rfl) ?_
      refine mG_21 C in_7 hP k_76 dX7_joinAll_128 ?_
      refine lv_iload hx hb dX7_joinAll_131 (lv_at hl 8 rfl) ?_
      obtain ⟨b_133, h⟩ := chk_of h
      refine mL_21 C hP b_133 dX7_joinAll_133 ?_
      refine lv_ladd hx hb dX7_joinAll_134 ?_
      refine lv_lload hx hb dX7_joinAll_135 (lv_at hl 6 rfl) ?_
      refine lv_ladd hx hb dX7_joinAll_137 ?_
      obtain ⟨r_138, e_138, h⟩ := bnd_of h
      refine mCall (va_runV (As := [.int (r_83 + (σ.2.2.1 17 x10.toNatClampNeg)), .int x2, .int x4, .long (((σ.2.2.2 20 x9.toNatClampNeg) + (σ.2.2.2 20 x10.toNatClampNeg)) + x5), .long (((σ.2.2.2 21 x9.toNatClampNeg) + (σ.2.2.2 21 x10.toNatClampNeg)) + x7)]) C.1 (cM_add e_138) (cwV 5 hts gX7_joinAll_X7_add rfl rfl rfl (by decide +kernel) ⟨by decide, by decide⟩) (mPreM C.2 hP hD _) rfl rfl hl.1 rfl (lv_room (Nat.le_of_ble_eq_true rfl)) dX7_joinAll_138 ⟨Nat.zero_le _, Nat.zero_le _⟩) hS hD (fun _ h => Or.inr h) (fun H locs hP hS => ?_)
      refine lv_iinc (v := (x10 + 1)) (lv' := [(10, .int (x10 + 1)), (11, .int (r_83 + (σ.2.2.1 17 x10.toNatClampNeg))), (0, .ref (ρ 40)), (2, .int x2), (3, .int x3), (4, .int x4), (5, .long x5), (7, .long x7), (9, .int x9)]) hx hb dX7_joinAll_141 hl (k := 8) rfl rfl (by decide) rfl (fun ls hl => ?_)
      refine lv_goto (tgt := 46) hx hb dX7_joinAll_144 (by decide) ?_
      exact ih _ _ _ _ _ _ _ _ _ _ _ h hP hS (lv_sub hl [2, 3, 4, 5, 6, 7, 8, 0] rfl) hK147
set_option maxRecDepth 100000 in
set_option maxHeartbeats 4000000 in
theorem wM_joinAll_L28 {p : Program} {l : Launch} {e : Env} {s : State} {m : MethodId} {args : Array Value} {below : List Frame} {meth : Method} {c : Code} {D : va_G} {κ : Nat → ClassId} {ρ : Nat → Nat} (C : MC p m c cX7_joinAll 12 s args wsX7_joinAll D κ) (hr : meth.sig.returnType = none) (hlk : meth.locks = false) (hD : DM (AM ρ s.heap.size) ρ) {N : Nat} {q : MSt} : ∀ (n : Nat) (σ : MSt) (x2 : Int32) (x3 : Int32) (x4 : Int32) (x5 : Int64) (x7 : Int64) (x9 : Int32) (H : Heap) (locs : List Loc) (ls : Array Slot), fM_joinAll_L28 N n σ x2 x3 x4 x5 x7 x9 = some q → va_P D vwCl (cellsM κ ρ σ) H → va_S (AM ρ s.heap.size) s.heap H locs → lv_has ls 12 [(0, .ref (ρ 40)), (2, .int x2), (3, .int x3), (4, .int x4), (5, .long x5), (7, .long x7), (9, .int x9)] → W p l e ({ frames := 2, cells := 0, slots := 0, locals := 59 } : Room) s m args below meth c H locs 0 0 (MQ below (QM D κ ρ s.heap.size q none) args s 0 0 (AM ρ s.heap.size)) (F0 m 28 ls []) := by
  have hx := C.1.1
  have hb := C.1.2.1
  have hts := C.1.2.2.2.2
  have hown := C.1.2.2.2.1
  have k_60 := hts (.fieldLink RX7 60 "PlanCabinetModel" "from" "[I") (by decide +kernel)
  have in_7 : ∀ w ∈ wsX70, w ∈ wsX7_joinAll := by decide +kernel
  intro n
  induction n with
  | zero =>
    intro σ x2 x3 x4 x5 x7 x9 H locs ls h hP hS hl
    rw [fM_joinAll_L28] at h
    cases h
  | succ n ih =>
    intro σ x2 x3 x4 x5 x7 x9 H locs ls h hP hS hl
    rw [fM_joinAll_L28] at h
    refine lv_iload hx hb dX7_joinAll_28 (lv_at hl 6 rfl) ?_
    refine lv_aload_n hx hb dX7_joinAll_30 rfl (lv_at hl 0 rfl) ?_
    refine lv_iload_n hx hb dX7_joinAll_31 rfl (lv_at hl 1 rfl) ?_
    obtain ⟨r_32, e_32, h⟩ := bnd_of h
    refine callP (W.runV (As := [.int x2]) C.1 (cM_lastOf e_32) (cwV 1 hts gX7_joinAll_X7_lastOf rfl rfl rfl (by decide +kernel) ⟨by decide, by decide⟩) (mPreR C.2 hP _) rfl rfl hl.1 rfl (lv_room (Nat.le_of_ble_eq_true rfl)) dX7_joinAll_32 ⟨Nat.zero_le _, Nat.zero_le _⟩) ?_
    refine lv_icmp_ge (tgt := 153) hx hb dX7_joinAll_35 (by decide) (fun c_35 => ?_) (fun c_35 => ?_)
    · have h := zz_pos c_35 h
      exact W.vret hx hb hr (fun t ht hW => ⟨rfl, by rw [ht, ← some_of h]; exact hP, hS.F ht⟩) hS.2.2 dX7_joinAll_153
    · have h := zz_neg c_35 h
      refine lv_aload_n hx hb dX7_joinAll_38 rfl (lv_at hl 0 rfl) ?_
      refine mG_16 C in_7 hP k_60 dX7_joinAll_39 ?_
      refine lv_iload_n hx hb dX7_joinAll_42 rfl (lv_at hl 2 rfl) ?_
      obtain ⟨b_43, h⟩ := chk_of h
      refine mL_16 C hP b_43 dX7_joinAll_43 ?_
      refine lv_istore (lv' := [(10, .int (σ.2.2.1 16 x3.toNatClampNeg)), (0, .ref (ρ 40)), (2, .int x2), (3, .int x3), (4, .int x4), (5, .long x5), (7, .long x7), (9, .int x9)]) hx hb dX7_joinAll_44 hl (by decide) rfl (fun ls hl => ?_)
      refine wM_joinAll_L46 C hr hlk hD _ _ _ _ _ _ _ _ _ _ _ _ h hP hS (lv_sub hl [1, 2, 3, 4, 5, 6, 7, 0] rfl) ?_
      intro σ x2 x3 x4 x5 x7 x9 H locs ls h hP hS hl
      refine lv_iinc (v := (x9 + 1)) (lv' := [(9, .int (x9 + 1)), (0, .ref (ρ 40)), (2, .int x2), (3, .int x3), (4, .int x4), (5, .long x5), (7, .long x7)]) hx hb dX7_joinAll_147 hl (k := 6) rfl rfl (by decide) rfl (fun ls hl => ?_)
      refine lv_goto (tgt := 28) hx hb dX7_joinAll_150 (by decide) ?_
      exact ih _ _ _ _ _ _ _ _ _ _ h hP hS (lv_sub hl [1, 2, 3, 4, 5, 6, 0] rfl)
set_option maxRecDepth 100000 in
set_option maxHeartbeats 4000000 in
theorem cM_joinAll {l : Launch} {D : va_G} {κ : Nat → ClassId} {ρ : Nat → Nat} {sz : Nat} {N : Nat} {σ : MSt} {x1 : Int32} {x2 : Int32} {x3 : Int32} {x4 : Int32} {q : MSt} (h : fM_joinAll N σ x1 x2 x3 x4 = some q) : Met l yX7_joinAll wsX7_joinAll ({ frames := 2, cells := 0, slots := 0, locals := 59 } : Room) (va_Pc [.ref (ρ 40), .int x1, .int x2, .int x3, .int x4] (PM D κ ρ sz σ)) (QM D κ ρ sz q none) 0 0 (AM ρ sz) := by
  refine mMetM (ret := none) (by decide) rfl rfl (Nat.le_of_ble_eq_true rfl) ?_
  intro p e s m below meth c ls C hr hlk hD hP hl
  have hS : va_S (AM ρ s.heap.size) s.heap s.heap [] := va_S.rf
  have hl : lv_has ls 12 [(0, .ref (ρ 40)), (1, .int x1), (2, .int x2), (3, .int x3), (4, .int x4)] := hl
  unfold fM_joinAll at h
  have hx := C.1.1
  have hb := C.1.2.1
  have hts := C.1.2.2.2.2
  have hown := C.1.2.2.2.1
  have k_53 := hts (.fieldLink RX7 53 "PlanCabinetModel" "a" "J") (by decide +kernel)
  have k_57 := hts (.fieldLink RX7 57 "PlanCabinetModel" "b" "J") (by decide +kernel)
  have k_60 := hts (.fieldLink RX7 60 "PlanCabinetModel" "from" "[I") (by decide +kernel)
  have in_7 : ∀ w ∈ wsX70, w ∈ wsX7_joinAll := by decide +kernel
  refine lv_aload_n hx hb dX7_joinAll_0 rfl (lv_at hl 0 rfl) ?_
  refine lv_iload hx hb dX7_joinAll_1 (lv_at hl 4 rfl) ?_
  refine lv_iload_n hx hb dX7_joinAll_3 rfl (lv_at hl 2 rfl) ?_
  refine lv_iload_n hx hb dX7_joinAll_4 rfl (lv_at hl 3 rfl) ?_
  obtain ⟨r_5, e_5, h⟩ := bnd_of h
  refine mCall (va_runV (As := [.int x4, .int x2, .int x3]) C.1 (cM_joining e_5) (cwV 3 hts gX7_joinAll_X7_joining rfl rfl rfl (by decide +kernel) ⟨by decide, by decide⟩) (mPreM C.2 hP hD _) rfl rfl hl.1 rfl (lv_room (Nat.le_of_ble_eq_true rfl)) dX7_joinAll_5 ⟨Nat.zero_le _, Nat.zero_le _⟩) hS hD (fun _ h => Or.inr h) (fun H locs hP hS => ?_)
  refine lv_aload_n hx hb dX7_joinAll_8 rfl (lv_at hl 0 rfl) ?_
  refine mG_14 C in_7 hP k_53 dX7_joinAll_9 ?_
  refine lv_lstore (lv' := [(5, .long (r_5.2.1 14)), (0, .ref (ρ 40)), (1, .int x1), (2, .int x2), (3, .int x3), (4, .int x4)]) hx hb dX7_joinAll_12 hl (by decide) rfl (fun ls hl => ?_)
  refine lv_aload_n hx hb dX7_joinAll_14 rfl (lv_at hl 1 rfl) ?_
  refine mG_15 C in_7 hP k_57 dX7_joinAll_15 ?_
  refine lv_lstore (lv' := [(7, .long (r_5.2.1 15)), (5, .long (r_5.2.1 14)), (0, .ref (ρ 40)), (1, .int x1), (2, .int x2), (3, .int x3), (4, .int x4)]) hx hb dX7_joinAll_18 hl (by decide) rfl (fun ls hl => ?_)
  refine lv_aload_n hx hb dX7_joinAll_20 rfl (lv_at hl 2 rfl) ?_
  refine mG_16 C in_7 hP k_60 dX7_joinAll_21 ?_
  refine lv_iload_n hx hb dX7_joinAll_24 rfl (lv_at hl 4 rfl) ?_
  obtain ⟨b_25, h⟩ := chk_of h
  refine mL_16 C hP b_25 dX7_joinAll_25 ?_
  refine lv_istore (lv' := [(9, .int (r_5.2.2.1 16 x2.toNatClampNeg)), (7, .long (r_5.2.1 15)), (5, .long (r_5.2.1 14)), (0, .ref (ρ 40)), (1, .int x1), (2, .int x2), (3, .int x3), (4, .int x4)]) hx hb dX7_joinAll_26 hl (by decide) rfl (fun ls hl => ?_)
  exact wM_joinAll_L28 C hr hlk hD _ _ _ _ _ _ _ _ _ _ _ h hP hS (lv_sub hl [3, 5, 6, 7, 2, 1, 0] rfl)
def fM_isSortedSo_J40 (N : Nat) (σ : MSt) (x3 : Int32) : Option (Int32) := chk x3 4 ((if (σ.2.2.1 8 x3.toNatClampNeg) = (σ.1 2) then chk x3 4 ((if (σ.2.2.1 9 x3.toNatClampNeg) = (σ.1 3) then some (1 : Int32) else some (0 : Int32))) else some (0 : Int32)))
def fM_isSortedSo (N : Nat) (σ : MSt) (x1 : Int32) (x2 : Int32) : Option (Int32) := (fM_between N σ x1 x2).bind fun r_3 => (if (σ.1 2) < 0 then some (0 : Int32) else chk r_3 4 ((if (σ.2.2.1 6 r_3.toNatClampNeg) = (σ.1 2) then chk r_3 4 ((if (σ.2.2.1 7 r_3.toNatClampNeg) = (σ.1 3) then some (1 : Int32) else fM_isSortedSo_J40 N σ r_3)) else fM_isSortedSo_J40 N σ r_3)))
set_option maxRecDepth 100000 in
set_option maxHeartbeats 4000000 in
theorem wM_isSortedSo_J40 {p : Program} {l : Launch} {e : Env} {s : State} {m : MethodId} {args : Array Value} {below : List Frame} {meth : Method} {c : Code} {D : va_G} {κ : Nat → ClassId} {ρ : Nat → Nat} {σ : MSt} (C : MC p m c cX7_isSortedSo 4 s args wsX7_isSortedSo D κ) (hr : meth.sig.returnType = (some .boolean)) (hlk : meth.locks = false) (hP : va_P D vwCl (cellsM κ ρ σ) s.heap) {N : Nat} {r : Int32} : ∀ (x3 : Int32) (ls : Array Slot), fM_isSortedSo_J40 N σ x3 = some r → lv_has ls 4 [(0, .ref (ρ 40)), (3, .int x3)] → W p l e ({ frames := 2, cells := 0, slots := 0, locals := 48 } : Room) s m args below meth c s.heap [] 0 0 (MQ below (PU (some (.int r))) args s 0 0 (fun _ => False)) (F0 m 40 ls []) := by
  have hx := C.1.1
  have hb := C.1.2.1
  have hts := C.1.2.2.2.2
  have hown := C.1.2.2.2.1
  have k_16 := hts (.fieldLink RX7 16 "PlanCabinetModel" "orderTable" "I") (by decide +kernel)
  have k_19 := hts (.fieldLink RX7 19 "PlanCabinetModel" "orderColumn" "I") (by decide +kernel)
  have k_35 := hts (.fieldLink RX7 35 "PlanCabinetModel" "pairU" "[I") (by decide +kernel)
  have k_38 := hts (.fieldLink RX7 38 "PlanCabinetModel" "pairO" "[I") (by decide +kernel)
  have in_7 : ∀ w ∈ wsX70, w ∈ wsX7_isSortedSo := by decide +kernel
  intro x3 ls h hl
  unfold fM_isSortedSo_J40 at h
  refine lv_aload_n hx hb dX7_isSortedSo_40 rfl (lv_at hl 0 rfl) ?_
  refine mG_8 C in_7 hP k_35 dX7_isSortedSo_41 ?_
  refine lv_iload_n hx hb dX7_isSortedSo_44 rfl (lv_at hl 1 rfl) ?_
  obtain ⟨b_45, h⟩ := chk_of h
  refine mL_8 C hP b_45 dX7_isSortedSo_45 ?_
  refine lv_aload_n hx hb dX7_isSortedSo_46 rfl (lv_at hl 0 rfl) ?_
  refine mG_2 C in_7 hP k_16 dX7_isSortedSo_47 ?_
  refine lv_icmp_ne (tgt := 70) hx hb dX7_isSortedSo_50 (by decide) (fun c_50 => ?_) (fun c_50 => ?_)
  · have h := zz_neg c_50 h
    refine lv_iconst (v := (0 : Int32)) hx hb dX7_isSortedSo_70 (by decide) ?_
    exact W.zret (ty := .boolean) hx hb hr (by decide +kernel) (fun t ht hW => ⟨by rw [some_of h], ht⟩) (fun _ h => by cases h) dX7_isSortedSo_71
  · have h := zz_pos c_50 h
    refine lv_aload_n hx hb dX7_isSortedSo_53 rfl (lv_at hl 0 rfl) ?_
    refine mG_9 C in_7 hP k_38 dX7_isSortedSo_54 ?_
    refine lv_iload_n hx hb dX7_isSortedSo_57 rfl (lv_at hl 1 rfl) ?_
    obtain ⟨b_58, h⟩ := chk_of h
    refine mL_9 C hP b_58 dX7_isSortedSo_58 ?_
    refine lv_aload_n hx hb dX7_isSortedSo_59 rfl (lv_at hl 0 rfl) ?_
    refine mG_3 C in_7 hP k_19 dX7_isSortedSo_60 ?_
    refine lv_icmp_ne (tgt := 70) hx hb dX7_isSortedSo_63 (by decide) (fun c_63 => ?_) (fun c_63 => ?_)
    · have h := zz_neg c_63 h
      refine lv_iconst (v := (0 : Int32)) hx hb dX7_isSortedSo_70 (by decide) ?_
      exact W.zret (ty := .boolean) hx hb hr (by decide +kernel) (fun t ht hW => ⟨by rw [some_of h], ht⟩) (fun _ h => by cases h) dX7_isSortedSo_71
    · have h := zz_pos c_63 h
      refine lv_iconst (v := (1 : Int32)) hx hb dX7_isSortedSo_66 (by decide) ?_
      refine lv_goto (tgt := 71) hx hb dX7_isSortedSo_67 (by decide) ?_
      exact W.zret (ty := .boolean) hx hb hr (by decide +kernel) (fun t ht hW => ⟨by rw [some_of h], ht⟩) (fun _ h => by cases h) dX7_isSortedSo_71
set_option maxRecDepth 100000 in
set_option maxHeartbeats 4000000 in
theorem cM_isSortedSo {l : Launch} {D : va_G} {κ : Nat → ClassId} {ρ : Nat → Nat} {N : Nat} {σ : MSt} {x1 : Int32} {x2 : Int32} {r : Int32} (h : fM_isSortedSo N σ x1 x2 = some r) : Met l yX7_isSortedSo wsX7_isSortedSo ({ frames := 2, cells := 0, slots := 0, locals := 48 } : Room) (va_Pc [.ref (ρ 40), .int x1, .int x2] (PR D κ ρ σ)) (PU (some (.int r))) 0 0 (fun _ => False) := by
  refine mMetR (ret := (some .boolean)) (by decide) rfl rfl (Nat.le_of_ble_eq_true rfl) ?_
  intro p e s m below meth c ls C hr hlk hP hl
  have hl : lv_has ls 4 [(0, .ref (ρ 40)), (1, .int x1), (2, .int x2)] := hl
  unfold fM_isSortedSo at h
  have hx := C.1.1
  have hb := C.1.2.1
  have hts := C.1.2.2.2.2
  have hown := C.1.2.2.2.1
  have k_16 := hts (.fieldLink RX7 16 "PlanCabinetModel" "orderTable" "I") (by decide +kernel)
  have k_19 := hts (.fieldLink RX7 19 "PlanCabinetModel" "orderColumn" "I") (by decide +kernel)
  have k_29 := hts (.fieldLink RX7 29 "PlanCabinetModel" "pairT" "[I") (by decide +kernel)
  have k_32 := hts (.fieldLink RX7 32 "PlanCabinetModel" "pairC" "[I") (by decide +kernel)
  have in_7 : ∀ w ∈ wsX70, w ∈ wsX7_isSortedSo := by decide +kernel
  refine lv_aload_n hx hb dX7_isSortedSo_0 rfl (lv_at hl 0 rfl) ?_
  refine lv_iload_n hx hb dX7_isSortedSo_1 rfl (lv_at hl 1 rfl) ?_
  refine lv_iload_n hx hb dX7_isSortedSo_2 rfl (lv_at hl 2 rfl) ?_
  obtain ⟨r_3, e_3, h⟩ := bnd_of h
  refine callP (W.runV (As := [.int x1, .int x2]) C.1 (cM_between e_3) (cwV 2 hts gX7_isSortedSo_X7_between rfl rfl rfl (by decide +kernel) ⟨by decide, by decide⟩) (mPreR C.2 hP _) rfl rfl hl.1 rfl (lv_room (Nat.le_of_ble_eq_true rfl)) dX7_isSortedSo_3 ⟨Nat.zero_le _, Nat.zero_le _⟩) ?_
  refine lv_istore_n (lv' := [(3, .int r_3), (0, .ref (ρ 40)), (1, .int x1), (2, .int x2)]) hx hb dX7_isSortedSo_6 rfl hl (by decide) rfl (fun ls hl => ?_)
  refine lv_aload_n hx hb dX7_isSortedSo_7 rfl (lv_at hl 1 rfl) ?_
  refine mG_2 C in_7 hP k_16 dX7_isSortedSo_8 ?_
  refine lv_if_lt (tgt := 70) hx hb dX7_isSortedSo_11 (by decide) (fun c_11 => ?_) (fun c_11 => ?_)
  · have h := zz_pos c_11 h
    refine lv_iconst (v := (0 : Int32)) hx hb dX7_isSortedSo_70 (by decide) ?_
    exact W.zret (ty := .boolean) hx hb hr (by decide +kernel) (fun t ht hW => ⟨by rw [some_of h], ht⟩) (fun _ h => by cases h) dX7_isSortedSo_71
  · have h := zz_neg c_11 h
    refine lv_aload_n hx hb dX7_isSortedSo_14 rfl (lv_at hl 1 rfl) ?_
    refine mG_6 C in_7 hP k_29 dX7_isSortedSo_15 ?_
    refine lv_iload_n hx hb dX7_isSortedSo_18 rfl (lv_at hl 0 rfl) ?_
    obtain ⟨b_19, h⟩ := chk_of h
    refine mL_6 C hP b_19 dX7_isSortedSo_19 ?_
    refine lv_aload_n hx hb dX7_isSortedSo_20 rfl (lv_at hl 1 rfl) ?_
    refine mG_2 C in_7 hP k_16 dX7_isSortedSo_21 ?_
    refine lv_icmp_ne (tgt := 40) hx hb dX7_isSortedSo_24 (by decide) (fun c_24 => ?_) (fun c_24 => ?_)
    · have h := zz_neg c_24 h
      exact wM_isSortedSo_J40 C hr hlk hP _ _ h (lv_sub hl [1, 0] rfl)
    · have h := zz_pos c_24 h
      refine lv_aload_n hx hb dX7_isSortedSo_27 rfl (lv_at hl 1 rfl) ?_
      refine mG_7 C in_7 hP k_32 dX7_isSortedSo_28 ?_
      refine lv_iload_n hx hb dX7_isSortedSo_31 rfl (lv_at hl 0 rfl) ?_
      obtain ⟨b_32, h⟩ := chk_of h
      refine mL_7 C hP b_32 dX7_isSortedSo_32 ?_
      refine lv_aload_n hx hb dX7_isSortedSo_33 rfl (lv_at hl 1 rfl) ?_
      refine mG_3 C in_7 hP k_19 dX7_isSortedSo_34 ?_
      refine lv_icmp_eq (tgt := 66) hx hb dX7_isSortedSo_37 (by decide) (fun c_37 => ?_) (fun c_37 => ?_)
      · have h := zz_pos c_37 h
        refine lv_iconst (v := (1 : Int32)) hx hb dX7_isSortedSo_66 (by decide) ?_
        refine lv_goto (tgt := 71) hx hb dX7_isSortedSo_67 (by decide) ?_
        exact W.zret (ty := .boolean) hx hb hr (by decide +kernel) (fun t ht hW => ⟨by rw [some_of h], ht⟩) (fun _ h => by cases h) dX7_isSortedSo_71
      · have h := zz_neg c_37 h
        exact wM_isSortedSo_J40 C hr hlk hP _ _ h (lv_sub hl [1, 0] rfl)
def fM_end_J41 (N : Nat) (σ : MSt) (x1 : Int32) (x2 : Int32) : Option (MSt) := (fM_size N σ x2).bind fun r_43 => chk x1 5000 (chk x1 5000 (chk x1 5000 (chk x1 5000 (some (sB (sB r_43 20 x1.toNatClampNeg ((r_43.2.2.2 20 x1.toNatClampNeg) + ((3 : Int64) * (r_43.2.1 14)))) 21 x1.toNatClampNeg (((sB r_43 20 x1.toNatClampNeg ((r_43.2.2.2 20 x1.toNatClampNeg) + ((3 : Int64) * (r_43.2.1 14)))).2.2.2 21 x1.toNatClampNeg) + ((3 : Int64) * ((sB r_43 20 x1.toNatClampNeg ((r_43.2.2.2 20 x1.toNatClampNeg) + ((3 : Int64) * (r_43.2.1 14)))).2.1 15))))))))
def fM_end (N : Nat) (σ : MSt) (x1 : Int32) (x2 : Int32) : Option (MSt) := (if (σ.1 2) < 0 then some σ else chk x1 5000 ((if (σ.2.2.1 19 x1.toNatClampNeg) = (2 : Int32) then chk x1 5000 (chk x1 5000 ((fM_isSortedSo N σ (σ.2.2.1 18 x1.toNatClampNeg) (x2 &&& ((σ.2.2.1 18 x1.toNatClampNeg) ^^^ (-1 : Int32)))).bind fun r_34 => (if r_34 = 0 then fM_end_J41 N σ x1 x2 else some σ))) else fM_end_J41 N σ x1 x2)))
set_option maxRecDepth 100000 in
set_option maxHeartbeats 4000000 in
theorem wM_end_J41 {p : Program} {l : Launch} {e : Env} {s : State} {m : MethodId} {args : Array Value} {below : List Frame} {meth : Method} {c : Code} {D : va_G} {κ : Nat → ClassId} {ρ : Nat → Nat} (C : MC p m c cX7_end 3 s args wsX7_end D κ) (hr : meth.sig.returnType = none) (hlk : meth.locks = false) (hD : DM (AM ρ s.heap.size) ρ) {N : Nat} {q : MSt} : ∀ (σ : MSt) (x1 : Int32) (x2 : Int32) (H : Heap) (locs : List Loc) (ls : Array Slot), fM_end_J41 N σ x1 x2 = some q → va_P D vwCl (cellsM κ ρ σ) H → va_S (AM ρ s.heap.size) s.heap H locs → lv_has ls 3 [(0, .ref (ρ 40)), (1, .int x1), (2, .int x2)] → W p l e ({ frames := 3, cells := 0, slots := 0, locals := 71 } : Room) s m args below meth c H locs 0 0 (MQ below (QM D κ ρ s.heap.size q none) args s 0 0 (AM ρ s.heap.size)) (F0 m 41 ls []) := by
  have hx := C.1.1
  have hb := C.1.2.1
  have hts := C.1.2.2.2.2
  have hown := C.1.2.2.2.1
  have k_53 := hts (.fieldLink RX7 53 "PlanCabinetModel" "a" "J") (by decide +kernel)
  have k_57 := hts (.fieldLink RX7 57 "PlanCabinetModel" "b" "J") (by decide +kernel)
  have k_72 := hts (.fieldLink RX7 72 "PlanCabinetModel" "priceA" "[J") (by decide +kernel)
  have k_76 := hts (.fieldLink RX7 76 "PlanCabinetModel" "priceB" "[J") (by decide +kernel)
  have k_162 := hts (.constantLong RX7 162 (3)) (by decide +kernel)
  have in_7 : ∀ w ∈ wsX70, w ∈ wsX7_end := by decide +kernel
  intro σ x1 x2 H locs ls h hP hS hl
  unfold fM_end_J41 at h
  refine lv_aload_n hx hb dX7_end_41 rfl (lv_at hl 0 rfl) ?_
  refine lv_iload_n hx hb dX7_end_42 rfl (lv_at hl 2 rfl) ?_
  obtain ⟨r_43, e_43, h⟩ := bnd_of h
  refine mCall (va_runV (As := [.int x2]) C.1 (cM_size e_43) (cwV 1 hts gX7_end_X7_size rfl rfl rfl (by decide +kernel) ⟨by decide, by decide⟩) (mPreM C.2 hP hD _) rfl rfl hl.1 rfl (lv_room (Nat.le_of_ble_eq_true rfl)) dX7_end_43 ⟨Nat.zero_le _, Nat.zero_le _⟩) hS hD (fun _ h => Or.inr h) (fun H locs hP hS => ?_)
  refine lv_aload_n hx hb dX7_end_46 rfl (lv_at hl 0 rfl) ?_
  refine mG_20 C in_7 hP k_72 dX7_end_47 ?_
  refine lv_iload_n hx hb dX7_end_50 rfl (lv_at hl 1 rfl) ?_
  refine lv_dup2_11 hx hb dX7_end_51 rfl rfl ?_
  obtain ⟨b_52, h⟩ := chk_of h
  refine mL_20 C hP b_52 dX7_end_52 ?_
  refine lv_ldc2 hx hb hown k_162 dX7_end_53 ?_
  refine lv_aload_n hx hb dX7_end_56 rfl (lv_at hl 0 rfl) ?_
  refine mG_14 C in_7 hP k_53 dX7_end_57 ?_
  refine lv_lmul hx hb dX7_end_60 ?_
  refine lv_ladd hx hb dX7_end_61 ?_
  obtain ⟨b_62, h⟩ := chk_of h
  refine mS_20 C hP hD hS b_62 dX7_end_62 (fun H locs hP hS => ?_)
  refine lv_aload_n hx hb dX7_end_63 rfl (lv_at hl 0 rfl) ?_
  refine mG_21 C in_7 hP k_76 dX7_end_64 ?_
  refine lv_iload_n hx hb dX7_end_67 rfl (lv_at hl 1 rfl) ?_
  refine lv_dup2_11 hx hb dX7_end_68 rfl rfl ?_
  obtain ⟨b_69, h⟩ := chk_of h
  refine mL_21 C hP b_69 dX7_end_69 ?_
  refine lv_ldc2 hx hb hown k_162 dX7_end_70 ?_
  refine lv_aload_n hx hb dX7_end_73 rfl (lv_at hl 0 rfl) ?_
  refine mG_15 C in_7 hP k_57 dX7_end_74 ?_
  refine lv_lmul hx hb dX7_end_77 ?_
  refine lv_ladd hx hb dX7_end_78 ?_
  obtain ⟨b_79, h⟩ := chk_of h
  refine mS_21 C hP hD hS b_79 dX7_end_79 (fun H locs hP hS => ?_)
  exact W.vret hx hb hr (fun t ht hW => ⟨rfl, by rw [ht, ← some_of h]; exact hP, hS.F ht⟩) hS.2.2 dX7_end_80
set_option maxRecDepth 100000 in
set_option maxHeartbeats 4000000 in
theorem cM_end {l : Launch} {D : va_G} {κ : Nat → ClassId} {ρ : Nat → Nat} {sz : Nat} {N : Nat} {σ : MSt} {x1 : Int32} {x2 : Int32} {q : MSt} (h : fM_end N σ x1 x2 = some q) : Met l yX7_end wsX7_end ({ frames := 3, cells := 0, slots := 0, locals := 71 } : Room) (va_Pc [.ref (ρ 40), .int x1, .int x2] (PM D κ ρ sz σ)) (QM D κ ρ sz q none) 0 0 (AM ρ sz) := by
  refine mMetM (ret := none) (by decide) rfl rfl (Nat.le_of_ble_eq_true rfl) ?_
  intro p e s m below meth c ls C hr hlk hD hP hl
  have hS : va_S (AM ρ s.heap.size) s.heap s.heap [] := va_S.rf
  have hl : lv_has ls 3 [(0, .ref (ρ 40)), (1, .int x1), (2, .int x2)] := hl
  unfold fM_end at h
  have hx := C.1.1
  have hb := C.1.2.1
  have hts := C.1.2.2.2.2
  have hown := C.1.2.2.2.1
  have k_16 := hts (.fieldLink RX7 16 "PlanCabinetModel" "orderTable" "I") (by decide +kernel)
  have k_66 := hts (.fieldLink RX7 66 "PlanCabinetModel" "leftSet" "[I") (by decide +kernel)
  have k_69 := hts (.fieldLink RX7 69 "PlanCabinetModel" "kindOf" "[I") (by decide +kernel)
  have in_7 : ∀ w ∈ wsX70, w ∈ wsX7_end := by decide +kernel
  refine lv_aload_n hx hb dX7_end_0 rfl (lv_at hl 0 rfl) ?_
  refine mG_2 C in_7 hP k_16 dX7_end_1 ?_
  refine lv_if_lt (tgt := 40) hx hb dX7_end_4 (by decide) (fun c_4 => ?_) (fun c_4 => ?_)
  · have h := zz_pos c_4 h
    exact W.vret hx hb hr (fun t ht hW => ⟨rfl, by rw [ht, ← some_of h]; exact hP, hS.F ht⟩) hS.2.2 dX7_end_40
  · have h := zz_neg c_4 h
    refine lv_aload_n hx hb dX7_end_7 rfl (lv_at hl 0 rfl) ?_
    refine mG_19 C in_7 hP k_69 dX7_end_8 ?_
    refine lv_iload_n hx hb dX7_end_11 rfl (lv_at hl 1 rfl) ?_
    obtain ⟨b_12, h⟩ := chk_of h
    refine mL_19 C hP b_12 dX7_end_12 ?_
    refine lv_iconst (v := (2 : Int32)) hx hb dX7_end_13 (by decide) ?_
    refine lv_icmp_ne (tgt := 41) hx hb dX7_end_14 (by decide) (fun c_14 => ?_) (fun c_14 => ?_)
    · have h := zz_neg c_14 h
      exact wM_end_J41 C hr hlk hD _ _ _ _ _ _ h hP hS (lv_sub hl [0, 1, 2] rfl)
    · have h := zz_pos c_14 h
      refine lv_aload_n hx hb dX7_end_17 rfl (lv_at hl 0 rfl) ?_
      refine lv_aload_n hx hb dX7_end_18 rfl (lv_at hl 0 rfl) ?_
      refine mG_18 C in_7 hP k_66 dX7_end_19 ?_
      refine lv_iload_n hx hb dX7_end_22 rfl (lv_at hl 1 rfl) ?_
      obtain ⟨b_23, h⟩ := chk_of h
      refine mL_18 C hP b_23 dX7_end_23 ?_
      refine lv_iload_n hx hb dX7_end_24 rfl (lv_at hl 2 rfl) ?_
      refine lv_aload_n hx hb dX7_end_25 rfl (lv_at hl 0 rfl) ?_
      refine mG_18 C in_7 hP k_66 dX7_end_26 ?_
      refine lv_iload_n hx hb dX7_end_29 rfl (lv_at hl 1 rfl) ?_
      obtain ⟨b_30, h⟩ := chk_of h
      refine mL_18 C hP b_30 dX7_end_30 ?_
      refine lv_iconst (v := (-1 : Int32)) hx hb dX7_end_31 (by decide) ?_
      refine lv_ixor hx hb dX7_end_32 ?_
      refine lv_iand hx hb dX7_end_33 ?_
      obtain ⟨r_34, e_34, h⟩ := bnd_of h
      refine callP (W.runV (As := [.int (σ.2.2.1 18 x1.toNatClampNeg), .int (x2 &&& ((σ.2.2.1 18 x1.toNatClampNeg) ^^^ (-1 : Int32)))]) C.1 (cM_isSortedSo e_34) (cwV 2 hts gX7_end_X7_isSortedSo rfl rfl rfl (by decide +kernel) ⟨by decide, by decide⟩) (mPreR C.2 hP _) rfl rfl hl.1 rfl (lv_room (Nat.le_of_ble_eq_true rfl)) dX7_end_34 ⟨Nat.zero_le _, Nat.zero_le _⟩) ?_
      refine lv_if_eq (tgt := 41) hx hb dX7_end_37 (by decide) (fun c_37 => ?_) (fun c_37 => ?_)
      · have h := zz_pos c_37 h
        exact wM_end_J41 C hr hlk hD _ _ _ _ _ _ h hP hS (lv_sub hl [0, 1, 2] rfl)
      · have h := zz_neg c_37 h
        exact W.vret hx hb hr (fun t ht hW => ⟨rfl, by rw [ht, ← some_of h]; exact hP, hS.F ht⟩) hS.2.2 dX7_end_40
def fM_list_L27 (N : Nat) (K67 : MSt → Int32 → Option (MSt)) : Nat → MSt → Int32 → Int32 → Option (MSt)
  | 0, _, _, _ => none
  | n + 1, σ, x1, x2 => (if (σ.1 0) ≤ x2 then K67 σ x1 else (if x1 = ((1 : Int32) <<< (x2 &&& 31)) then chk x2 4 ((fM_add N σ x2 (0 : Int32) (-1 : Int32) ((256 : Int64) * (σ.2.2.1 4 x2.toNatClampNeg).toInt64) (0 : Int64)).bind fun r_58 => fM_list_L27 N K67 n r_58 x1 (x2 + 1)) else fM_list_L27 N K67 n σ x1 (x2 + 1)))
def fM_list_L103 (N : Nat) (K124 : MSt → Int32 → Int32 → Option (MSt)) : Nat → MSt → Int32 → Int32 → Int32 → Int32 → Option (MSt)
  | 0, _, _, _, _, _ => none
  | n + 1, σ, x1, x2, x3, x4 => (if (3 : Int32) ≤ x4 then K124 σ x1 x2 else (fM_joinAll N σ x1 x2 x3 x4).bind fun r_115 => fM_list_L103 N K124 n r_115 x1 x2 x3 (x4 + 1))
def fM_list_L69 (N : Nat) (K130 : MSt → Int32 → Option (MSt)) : Nat → MSt → Int32 → Int32 → Option (MSt)
  | 0, _, _, _ => none
  | n + 1, σ, x1, x2 => (if x1 ≤ x2 then K130 σ x1 else (if (x2 &&& (x1 ^^^ (-1 : Int32))) = 0 then (fM_between N σ x2 (x1 &&& (x2 ^^^ (-1 : Int32)))).bind fun r_91 => (if 0 ≤ r_91 then fM_list_L103 N (fun (σ : MSt) (x1 : Int32) (x2 : Int32) => fM_list_L69 N K130 n σ x1 (x2 + 1)) N σ x1 x2 (x1 &&& (x2 ^^^ (-1 : Int32))) (0 : Int32) else fM_list_L69 N K130 n σ x1 (x2 + 1)) else fM_list_L69 N K130 n σ x1 (x2 + 1)))
def fM_list_L145 (N : Nat) (K165 : MSt → Int32 → Option (MSt)) : Nat → MSt → Int32 → Int32 → Option (MSt)
  | 0, _, _, _ => none
  | n + 1, σ, x1, x2 => (if (σ.1 22) ≤ x2 then K165 σ x1 else (fM_end N σ x2 x1).bind fun r_156 => fM_list_L145 N K165 n r_156 x1 (x2 + 1))
def fM_list_L7 (N : Nat) (K171 : MSt → Option (MSt)) : Nat → MSt → Int32 → Option (MSt)
  | 0, _, _ => none
  | n + 1, σ, x1 => (fM_all N σ).bind fun r_9 => (if r_9 < x1 then K171 σ else chk x1 17 (fM_list_L27 N (fun (σ : MSt) (x1 : Int32) => fM_list_L69 N (fun (σ : MSt) (x1 : Int32) => (fM_all N σ).bind fun r_132 => (if x1 = r_132 then chk x1 17 (fM_list_L145 N (fun (σ : MSt) (x1 : Int32) => fM_list_L7 N K171 n σ (x1 + 1)) N σ x1 (σ.2.2.1 16 x1.toNatClampNeg)) else fM_list_L7 N K171 n σ (x1 + 1))) N σ x1 (1 : Int32)) N (sA σ 16 x1.toNatClampNeg (σ.1 22)) x1 (0 : Int32)))
def fM_list (N : Nat) (σ : MSt) : Option (MSt) := fM_list_L7 N (fun (σ : MSt) => (fM_all N σ).bind fun r_176 => chk (r_176 + (1 : Int32)) 17 (some (sA σ 16 (r_176 + (1 : Int32)).toNatClampNeg (σ.1 22)))) N (sI σ 22 (0 : Int32)) (1 : Int32)
set_option maxRecDepth 100000 in
set_option maxHeartbeats 4000000 in
theorem wM_list_L27 {p : Program} {l : Launch} {e : Env} {s : State} {m : MethodId} {args : Array Value} {below : List Frame} {meth : Method} {c : Code} {D : va_G} {κ : Nat → ClassId} {ρ : Nat → Nat} (C : MC p m c cX7_list 5 s args wsX7_list D κ) (hr : meth.sig.returnType = none) (hlk : meth.locks = false) (hD : DM (AM ρ s.heap.size) ρ) {N : Nat} {q : MSt} {K67 : MSt → Int32 → Option (MSt)} : ∀ (n : Nat) (σ : MSt) (x1 : Int32) (x2 : Int32) (H : Heap) (locs : List Loc) (ls : Array Slot), fM_list_L27 N K67 n σ x1 x2 = some q → va_P D vwCl (cellsM κ ρ σ) H → va_S (AM ρ s.heap.size) s.heap H locs → lv_has ls 5 [(0, .ref (ρ 40)), (1, .int x1), (2, .int x2)] → (∀ (σ : MSt) (x1 : Int32) (H : Heap) (locs : List Loc) (ls : Array Slot), K67 σ x1 = some q → va_P D vwCl (cellsM κ ρ σ) H → va_S (AM ρ s.heap.size) s.heap H locs → lv_has ls 5 [(0, .ref (ρ 40)), (1, .int x1)] → W p l e ({ frames := 4, cells := 0, slots := 0, locals := 93 } : Room) s m args below meth c H locs 0 0 (MQ below (QM D κ ρ s.heap.size q none) args s 0 0 (AM ρ s.heap.size)) (F0 m 67 ls [])) → W p l e ({ frames := 4, cells := 0, slots := 0, locals := 93 } : Room) s m args below meth c H locs 0 0 (MQ below (QM D κ ρ s.heap.size q none) args s 0 0 (AM ρ s.heap.size)) (F0 m 27 ls []) := by
  have hx := C.1.1
  have hb := C.1.2.1
  have hts := C.1.2.2.2.2
  have hown := C.1.2.2.2.1
  have k_7 := hts (.fieldLink RX7 7 "PlanCabinetModel" "tables" "I") (by decide +kernel)
  have k_22 := hts (.fieldLink RX7 22 "PlanCabinetModel" "rows" "[I") (by decide +kernel)
  have k_164 := hts (.constantLong RX7 164 (256)) (by decide +kernel)
  have in_7 : ∀ w ∈ wsX70, w ∈ wsX7_list := by decide +kernel
  intro n
  induction n with
  | zero =>
    intro σ x1 x2 H locs ls h hP hS hl hK67
    rw [fM_list_L27] at h
    cases h
  | succ n ih =>
    intro σ x1 x2 H locs ls h hP hS hl hK67
    rw [fM_list_L27] at h
    refine lv_iload_n hx hb dX7_list_27 rfl (lv_at hl 2 rfl) ?_
    refine lv_aload_n hx hb dX7_list_28 rfl (lv_at hl 0 rfl) ?_
    refine mG_0 C in_7 hP k_7 dX7_list_29 ?_
    refine lv_icmp_ge (tgt := 67) hx hb dX7_list_32 (by decide) (fun c_32 => ?_) (fun c_32 => ?_)
    · have h := zz_pos c_32 h
      exact hK67 _ _ _ _ _ h hP hS (lv_sub hl [0, 1] rfl)
    · have h := zz_neg c_32 h
      refine lv_iload_n hx hb dX7_list_35 rfl (lv_at hl 1 rfl) ?_
      refine lv_iconst (v := (1 : Int32)) hx hb dX7_list_36 (by decide) ?_
      refine lv_iload_n hx hb dX7_list_37 rfl (lv_at hl 2 rfl) ?_
      refine lv_ishl hx hb dX7_list_38 ?_
      refine lv_icmp_ne (tgt := 61) hx hb dX7_list_39 (by decide) (fun c_39 => ?_) (fun c_39 => ?_)
      · have h := zz_neg c_39 h
        refine lv_iinc (v := (x2 + 1)) (lv' := [(2, .int (x2 + 1)), (0, .ref (ρ 40)), (1, .int x1)]) hx hb dX7_list_61 hl (k := 2) rfl rfl (by decide) rfl (fun ls hl => ?_)
        refine lv_goto (tgt := 27) hx hb dX7_list_64 (by decide) ?_
        exact ih _ _ _ _ _ _ h hP hS (lv_sub hl [1, 2, 0] rfl) hK67
      · have h := zz_pos c_39 h
        refine lv_aload_n hx hb dX7_list_42 rfl (lv_at hl 0 rfl) ?_
        refine lv_iload_n hx hb dX7_list_43 rfl (lv_at hl 2 rfl) ?_
        refine lv_iconst (v := (0 : Int32)) hx hb dX7_list_44 (by decide) ?_
        refine lv_iconst (v := (-1 : Int32)) hx hb dX7_list_45 (by decide) ?_
        refine lv_ldc2 hx hb hown k_164 dX7_list_46 ?_
        refine lv_aload_n hx hb dX7_list_49 rfl (lv_at hl 0 rfl) ?_
        refine mG_4 C in_7 hP k_22 dX7_list_50 ?_
        refine lv_iload_n hx hb dX7_list_53 rfl (lv_at hl 2 rfl) ?_
        obtain ⟨b_54, h⟩ := chk_of h
        refine mL_4 C hP b_54 dX7_list_54 ?_
        refine lv_i2l hx hb dX7_list_55 rfl ?_
        refine lv_lmul hx hb dX7_list_56 ?_
        refine lv_lconst (v := (0 : Int64)) hx hb dX7_list_57 (by decide) ?_
        obtain ⟨r_58, e_58, h⟩ := bnd_of h
        refine mCall (va_runV (As := [.int x2, .int (0 : Int32), .int (-1 : Int32), .long ((256 : Int64) * (σ.2.2.1 4 x2.toNatClampNeg).toInt64), .long (0 : Int64)]) C.1 (cM_add e_58) (cwV 5 hts gX7_list_X7_add rfl rfl rfl (by decide +kernel) ⟨by decide, by decide⟩) (mPreM C.2 hP hD _) rfl rfl hl.1 rfl (lv_room (Nat.le_of_ble_eq_true rfl)) dX7_list_58 ⟨Nat.zero_le _, Nat.zero_le _⟩) hS hD (fun _ h => Or.inr h) (fun H locs hP hS => ?_)
        refine lv_iinc (v := (x2 + 1)) (lv' := [(2, .int (x2 + 1)), (0, .ref (ρ 40)), (1, .int x1)]) hx hb dX7_list_61 hl (k := 2) rfl rfl (by decide) rfl (fun ls hl => ?_)
        refine lv_goto (tgt := 27) hx hb dX7_list_64 (by decide) ?_
        exact ih _ _ _ _ _ _ h hP hS (lv_sub hl [1, 2, 0] rfl) hK67
set_option maxRecDepth 100000 in
set_option maxHeartbeats 4000000 in
theorem wM_list_L103 {p : Program} {l : Launch} {e : Env} {s : State} {m : MethodId} {args : Array Value} {below : List Frame} {meth : Method} {c : Code} {D : va_G} {κ : Nat → ClassId} {ρ : Nat → Nat} (C : MC p m c cX7_list 5 s args wsX7_list D κ) (hr : meth.sig.returnType = none) (hlk : meth.locks = false) (hD : DM (AM ρ s.heap.size) ρ) {N : Nat} {q : MSt} {K124 : MSt → Int32 → Int32 → Option (MSt)} : ∀ (n : Nat) (σ : MSt) (x1 : Int32) (x2 : Int32) (x3 : Int32) (x4 : Int32) (H : Heap) (locs : List Loc) (ls : Array Slot), fM_list_L103 N K124 n σ x1 x2 x3 x4 = some q → va_P D vwCl (cellsM κ ρ σ) H → va_S (AM ρ s.heap.size) s.heap H locs → lv_has ls 5 [(0, .ref (ρ 40)), (1, .int x1), (2, .int x2), (3, .int x3), (4, .int x4)] → (∀ (σ : MSt) (x1 : Int32) (x2 : Int32) (H : Heap) (locs : List Loc) (ls : Array Slot), K124 σ x1 x2 = some q → va_P D vwCl (cellsM κ ρ σ) H → va_S (AM ρ s.heap.size) s.heap H locs → lv_has ls 5 [(0, .ref (ρ 40)), (1, .int x1), (2, .int x2)] → W p l e ({ frames := 4, cells := 0, slots := 0, locals := 93 } : Room) s m args below meth c H locs 0 0 (MQ below (QM D κ ρ s.heap.size q none) args s 0 0 (AM ρ s.heap.size)) (F0 m 124 ls [])) → W p l e ({ frames := 4, cells := 0, slots := 0, locals := 93 } : Room) s m args below meth c H locs 0 0 (MQ below (QM D κ ρ s.heap.size q none) args s 0 0 (AM ρ s.heap.size)) (F0 m 103 ls []) := by
  have hx := C.1.1
  have hb := C.1.2.1
  have hts := C.1.2.2.2.2
  have hown := C.1.2.2.2.1
  intro n
  induction n with
  | zero =>
    intro σ x1 x2 x3 x4 H locs ls h hP hS hl hK124
    rw [fM_list_L103] at h
    cases h
  | succ n ih =>
    intro σ x1 x2 x3 x4 H locs ls h hP hS hl hK124
    rw [fM_list_L103] at h
    refine lv_iload hx hb dX7_list_103 (lv_at hl 4 rfl) ?_
    refine lv_iconst (v := (3 : Int32)) hx hb dX7_list_105 (by decide) ?_
    refine lv_icmp_ge (tgt := 124) hx hb dX7_list_106 (by decide) (fun c_106 => ?_) (fun c_106 => ?_)
    · have h := zz_pos c_106 h
      exact hK124 _ _ _ _ _ _ h hP hS (lv_sub hl [0, 1, 2] rfl)
    · have h := zz_neg c_106 h
      refine lv_aload_n hx hb dX7_list_109 rfl (lv_at hl 0 rfl) ?_
      refine lv_iload_n hx hb dX7_list_110 rfl (lv_at hl 1 rfl) ?_
      refine lv_iload_n hx hb dX7_list_111 rfl (lv_at hl 2 rfl) ?_
      refine lv_iload_n hx hb dX7_list_112 rfl (lv_at hl 3 rfl) ?_
      refine lv_iload hx hb dX7_list_113 (lv_at hl 4 rfl) ?_
      obtain ⟨r_115, e_115, h⟩ := bnd_of h
      refine mCall (va_runV (As := [.int x1, .int x2, .int x3, .int x4]) C.1 (cM_joinAll e_115) (cwV 4 hts gX7_list_X7_joinAll rfl rfl rfl (by decide +kernel) ⟨by decide, by decide⟩) (mPreM C.2 hP hD _) rfl rfl hl.1 rfl (lv_room (Nat.le_of_ble_eq_true rfl)) dX7_list_115 ⟨Nat.zero_le _, Nat.zero_le _⟩) hS hD (fun _ h => Or.inr h) (fun H locs hP hS => ?_)
      refine lv_iinc (v := (x4 + 1)) (lv' := [(4, .int (x4 + 1)), (0, .ref (ρ 40)), (1, .int x1), (2, .int x2), (3, .int x3)]) hx hb dX7_list_118 hl (k := 4) rfl rfl (by decide) rfl (fun ls hl => ?_)
      refine lv_goto (tgt := 103) hx hb dX7_list_121 (by decide) ?_
      exact ih _ _ _ _ _ _ _ _ h hP hS (lv_sub hl [1, 2, 3, 4, 0] rfl) hK124
set_option maxRecDepth 100000 in
set_option maxHeartbeats 4000000 in
theorem wM_list_L69 {p : Program} {l : Launch} {e : Env} {s : State} {m : MethodId} {args : Array Value} {below : List Frame} {meth : Method} {c : Code} {D : va_G} {κ : Nat → ClassId} {ρ : Nat → Nat} (C : MC p m c cX7_list 5 s args wsX7_list D κ) (hr : meth.sig.returnType = none) (hlk : meth.locks = false) (hD : DM (AM ρ s.heap.size) ρ) {N : Nat} {q : MSt} {K130 : MSt → Int32 → Option (MSt)} : ∀ (n : Nat) (σ : MSt) (x1 : Int32) (x2 : Int32) (H : Heap) (locs : List Loc) (ls : Array Slot), fM_list_L69 N K130 n σ x1 x2 = some q → va_P D vwCl (cellsM κ ρ σ) H → va_S (AM ρ s.heap.size) s.heap H locs → lv_has ls 5 [(0, .ref (ρ 40)), (1, .int x1), (2, .int x2)] → (∀ (σ : MSt) (x1 : Int32) (H : Heap) (locs : List Loc) (ls : Array Slot), K130 σ x1 = some q → va_P D vwCl (cellsM κ ρ σ) H → va_S (AM ρ s.heap.size) s.heap H locs → lv_has ls 5 [(0, .ref (ρ 40)), (1, .int x1)] → W p l e ({ frames := 4, cells := 0, slots := 0, locals := 93 } : Room) s m args below meth c H locs 0 0 (MQ below (QM D κ ρ s.heap.size q none) args s 0 0 (AM ρ s.heap.size)) (F0 m 130 ls [])) → W p l e ({ frames := 4, cells := 0, slots := 0, locals := 93 } : Room) s m args below meth c H locs 0 0 (MQ below (QM D κ ρ s.heap.size q none) args s 0 0 (AM ρ s.heap.size)) (F0 m 69 ls []) := by
  have hx := C.1.1
  have hb := C.1.2.1
  have hts := C.1.2.2.2.2
  have hown := C.1.2.2.2.1
  intro n
  induction n with
  | zero =>
    intro σ x1 x2 H locs ls h hP hS hl hK130
    rw [fM_list_L69] at h
    cases h
  | succ n ih =>
    intro σ x1 x2 H locs ls h hP hS hl hK130
    rw [fM_list_L69] at h
    refine lv_iload_n hx hb dX7_list_69 rfl (lv_at hl 2 rfl) ?_
    refine lv_iload_n hx hb dX7_list_70 rfl (lv_at hl 1 rfl) ?_
    refine lv_icmp_ge (tgt := 130) hx hb dX7_list_71 (by decide) (fun c_71 => ?_) (fun c_71 => ?_)
    · have h := zz_pos c_71 h
      exact hK130 _ _ _ _ _ h hP hS (lv_sub hl [0, 1] rfl)
    · have h := zz_neg c_71 h
      refine lv_iload_n hx hb dX7_list_74 rfl (lv_at hl 1 rfl) ?_
      refine lv_iload_n hx hb dX7_list_75 rfl (lv_at hl 2 rfl) ?_
      refine lv_iconst (v := (-1 : Int32)) hx hb dX7_list_76 (by decide) ?_
      refine lv_ixor hx hb dX7_list_77 ?_
      refine lv_iand hx hb dX7_list_78 ?_
      refine lv_istore_n (lv' := [(3, .int (x1 &&& (x2 ^^^ (-1 : Int32)))), (0, .ref (ρ 40)), (1, .int x1), (2, .int x2)]) hx hb dX7_list_79 rfl hl (by decide) rfl (fun ls hl => ?_)
      refine lv_iload_n hx hb dX7_list_80 rfl (lv_at hl 3 rfl) ?_
      refine lv_iload_n hx hb dX7_list_81 rfl (lv_at hl 2 rfl) ?_
      refine lv_iconst (v := (-1 : Int32)) hx hb dX7_list_82 (by decide) ?_
      refine lv_ixor hx hb dX7_list_83 ?_
      refine lv_iand hx hb dX7_list_84 ?_
      refine lv_if_ne (tgt := 124) hx hb dX7_list_85 (by decide) (fun c_85 => ?_) (fun c_85 => ?_)
      · have h := zz_neg c_85 h
        refine lv_iinc (v := (x2 + 1)) (lv' := [(2, .int (x2 + 1)), (3, .int (x1 &&& (x2 ^^^ (-1 : Int32)))), (0, .ref (ρ 40)), (1, .int x1)]) hx hb dX7_list_124 hl (k := 3) rfl rfl (by decide) rfl (fun ls hl => ?_)
        refine lv_goto (tgt := 69) hx hb dX7_list_127 (by decide) ?_
        exact ih _ _ _ _ _ _ h hP hS (lv_sub hl [2, 3, 0] rfl) hK130
      · have h := zz_pos c_85 h
        refine lv_aload_n hx hb dX7_list_88 rfl (lv_at hl 1 rfl) ?_
        refine lv_iload_n hx hb dX7_list_89 rfl (lv_at hl 3 rfl) ?_
        refine lv_iload_n hx hb dX7_list_90 rfl (lv_at hl 0 rfl) ?_
        obtain ⟨r_91, e_91, h⟩ := bnd_of h
        refine callP (W.runV (As := [.int x2, .int (x1 &&& (x2 ^^^ (-1 : Int32)))]) C.1 (cM_between e_91) (cwV 2 hts gX7_list_X7_between rfl rfl rfl (by decide +kernel) ⟨by decide, by decide⟩) (mPreR C.2 hP _) rfl rfl hl.1 rfl (lv_room (Nat.le_of_ble_eq_true rfl)) dX7_list_91 ⟨Nat.zero_le _, Nat.zero_le _⟩) ?_
        refine lv_if_ge (tgt := 100) hx hb dX7_list_94 (by decide) (fun c_94 => ?_) (fun c_94 => ?_)
        · have h := zz_pos c_94 h
          refine lv_iconst (v := (0 : Int32)) hx hb dX7_list_100 (by decide) ?_
          refine lv_istore (lv' := [(4, .int (0 : Int32)), (3, .int (x1 &&& (x2 ^^^ (-1 : Int32)))), (0, .ref (ρ 40)), (1, .int x1), (2, .int x2)]) hx hb dX7_list_101 hl (by decide) rfl (fun ls hl => ?_)
          refine wM_list_L103 C hr hlk hD _ _ _ _ _ _ _ _ _ h hP hS (lv_sub hl [2, 3, 4, 1, 0] rfl) ?_
          intro σ x1 x2 H locs ls h hP hS hl
          refine lv_iinc (v := (x2 + 1)) (lv' := [(2, .int (x2 + 1)), (0, .ref (ρ 40)), (1, .int x1)]) hx hb dX7_list_124 hl (k := 2) rfl rfl (by decide) rfl (fun ls hl => ?_)
          refine lv_goto (tgt := 69) hx hb dX7_list_127 (by decide) ?_
          exact ih _ _ _ _ _ _ h hP hS (lv_sub hl [1, 2, 0] rfl) hK130
        · have h := zz_neg c_94 h
          refine lv_goto (tgt := 124) hx hb dX7_list_97 (by decide) ?_
          refine lv_iinc (v := (x2 + 1)) (lv' := [(2, .int (x2 + 1)), (3, .int (x1 &&& (x2 ^^^ (-1 : Int32)))), (0, .ref (ρ 40)), (1, .int x1)]) hx hb dX7_list_124 hl (k := 3) rfl rfl (by decide) rfl (fun ls hl => ?_)
          refine lv_goto (tgt := 69) hx hb dX7_list_127 (by decide) ?_
          exact ih _ _ _ _ _ _ h hP hS (lv_sub hl [2, 3, 0] rfl) hK130
set_option maxRecDepth 100000 in
set_option maxHeartbeats 4000000 in
theorem wM_list_L145 {p : Program} {l : Launch} {e : Env} {s : State} {m : MethodId} {args : Array Value} {below : List Frame} {meth : Method} {c : Code} {D : va_G} {κ : Nat → ClassId} {ρ : Nat → Nat} (C : MC p m c cX7_list 5 s args wsX7_list D κ) (hr : meth.sig.returnType = none) (hlk : meth.locks = false) (hD : DM (AM ρ s.heap.size) ρ) {N : Nat} {q : MSt} {K165 : MSt → Int32 → Option (MSt)} : ∀ (n : Nat) (σ : MSt) (x1 : Int32) (x2 : Int32) (H : Heap) (locs : List Loc) (ls : Array Slot), fM_list_L145 N K165 n σ x1 x2 = some q → va_P D vwCl (cellsM κ ρ σ) H → va_S (AM ρ s.heap.size) s.heap H locs → lv_has ls 5 [(0, .ref (ρ 40)), (1, .int x1), (2, .int x2)] → (∀ (σ : MSt) (x1 : Int32) (H : Heap) (locs : List Loc) (ls : Array Slot), K165 σ x1 = some q → va_P D vwCl (cellsM κ ρ σ) H → va_S (AM ρ s.heap.size) s.heap H locs → lv_has ls 5 [(0, .ref (ρ 40)), (1, .int x1)] → W p l e ({ frames := 4, cells := 0, slots := 0, locals := 93 } : Room) s m args below meth c H locs 0 0 (MQ below (QM D κ ρ s.heap.size q none) args s 0 0 (AM ρ s.heap.size)) (F0 m 165 ls [])) → W p l e ({ frames := 4, cells := 0, slots := 0, locals := 93 } : Room) s m args below meth c H locs 0 0 (MQ below (QM D κ ρ s.heap.size q none) args s 0 0 (AM ρ s.heap.size)) (F0 m 145 ls []) := by
  have hx := C.1.1
  have hb := C.1.2.1
  have hts := C.1.2.2.2.2
  have hown := C.1.2.2.2.1
  have k_79 := hts (.fieldLink RX7 79 "PlanCabinetModel" "listed" "I") (by decide +kernel)
  have in_7 : ∀ w ∈ wsX70, w ∈ wsX7_list := by decide +kernel
  intro n
  induction n with
  | zero =>
    intro σ x1 x2 H locs ls h hP hS hl hK165
    rw [fM_list_L145] at h
    cases h
  | succ n ih =>
    intro σ x1 x2 H locs ls h hP hS hl hK165
    rw [fM_list_L145] at h
    refine lv_iload_n hx hb dX7_list_145 rfl (lv_at hl 2 rfl) ?_
    refine lv_aload_n hx hb dX7_list_146 rfl (lv_at hl 0 rfl) ?_
    refine mG_22 C in_7 hP k_79 dX7_list_147 ?_
    refine lv_icmp_ge (tgt := 165) hx hb dX7_list_150 (by decide) (fun c_150 => ?_) (fun c_150 => ?_)
    · have h := zz_pos c_150 h
      exact hK165 _ _ _ _ _ h hP hS (lv_sub hl [0, 1] rfl)
    · have h := zz_neg c_150 h
      refine lv_aload_n hx hb dX7_list_153 rfl (lv_at hl 0 rfl) ?_
      refine lv_iload_n hx hb dX7_list_154 rfl (lv_at hl 2 rfl) ?_
      refine lv_iload_n hx hb dX7_list_155 rfl (lv_at hl 1 rfl) ?_
      obtain ⟨r_156, e_156, h⟩ := bnd_of h
      refine mCall (va_runV (As := [.int x2, .int x1]) C.1 (cM_end e_156) (cwV 2 hts gX7_list_X7_end rfl rfl rfl (by decide +kernel) ⟨by decide, by decide⟩) (mPreM C.2 hP hD _) rfl rfl hl.1 rfl (lv_room (Nat.le_of_ble_eq_true rfl)) dX7_list_156 ⟨Nat.zero_le _, Nat.zero_le _⟩) hS hD (fun _ h => Or.inr h) (fun H locs hP hS => ?_)
      refine lv_iinc (v := (x2 + 1)) (lv' := [(2, .int (x2 + 1)), (0, .ref (ρ 40)), (1, .int x1)]) hx hb dX7_list_159 hl (k := 2) rfl rfl (by decide) rfl (fun ls hl => ?_)
      refine lv_goto (tgt := 145) hx hb dX7_list_162 (by decide) ?_
      exact ih _ _ _ _ _ _ h hP hS (lv_sub hl [1, 2, 0] rfl) hK165
set_option maxRecDepth 100000 in
set_option maxHeartbeats 4000000 in
theorem wM_list_L7 {p : Program} {l : Launch} {e : Env} {s : State} {m : MethodId} {args : Array Value} {below : List Frame} {meth : Method} {c : Code} {D : va_G} {κ : Nat → ClassId} {ρ : Nat → Nat} (C : MC p m c cX7_list 5 s args wsX7_list D κ) (hr : meth.sig.returnType = none) (hlk : meth.locks = false) (hD : DM (AM ρ s.heap.size) ρ) {N : Nat} {q : MSt} {K171 : MSt → Option (MSt)} : ∀ (n : Nat) (σ : MSt) (x1 : Int32) (H : Heap) (locs : List Loc) (ls : Array Slot), fM_list_L7 N K171 n σ x1 = some q → va_P D vwCl (cellsM κ ρ σ) H → va_S (AM ρ s.heap.size) s.heap H locs → lv_has ls 5 [(0, .ref (ρ 40)), (1, .int x1)] → (∀ (σ : MSt) (H : Heap) (locs : List Loc) (ls : Array Slot), K171 σ = some q → va_P D vwCl (cellsM κ ρ σ) H → va_S (AM ρ s.heap.size) s.heap H locs → lv_has ls 5 [(0, .ref (ρ 40))] → W p l e ({ frames := 4, cells := 0, slots := 0, locals := 93 } : Room) s m args below meth c H locs 0 0 (MQ below (QM D κ ρ s.heap.size q none) args s 0 0 (AM ρ s.heap.size)) (F0 m 171 ls [])) → W p l e ({ frames := 4, cells := 0, slots := 0, locals := 93 } : Room) s m args below meth c H locs 0 0 (MQ below (QM D κ ρ s.heap.size q none) args s 0 0 (AM ρ s.heap.size)) (F0 m 7 ls []) := by
  have hx := C.1.1
  have hb := C.1.2.1
  have hts := C.1.2.2.2.2
  have hown := C.1.2.2.2.1
  have k_60 := hts (.fieldLink RX7 60 "PlanCabinetModel" "from" "[I") (by decide +kernel)
  have k_79 := hts (.fieldLink RX7 79 "PlanCabinetModel" "listed" "I") (by decide +kernel)
  have in_7 : ∀ w ∈ wsX70, w ∈ wsX7_list := by decide +kernel
  intro n
  induction n with
  | zero =>
    intro σ x1 H locs ls h hP hS hl hK171
    rw [fM_list_L7] at h
    cases h
  | succ n ih =>
    intro σ x1 H locs ls h hP hS hl hK171
    rw [fM_list_L7] at h
    refine lv_iload_n hx hb dX7_list_7 rfl (lv_at hl 1 rfl) ?_
    refine lv_aload_n hx hb dX7_list_8 rfl (lv_at hl 0 rfl) ?_
    obtain ⟨r_9, e_9, h⟩ := bnd_of h
    refine callP (W.runV (As := []) C.1 (cM_all e_9) (cwV 0 hts gX7_list_X7_all rfl rfl rfl (by decide +kernel) ⟨by decide, by decide⟩) (mPreR C.2 hP _) rfl rfl hl.1 rfl (lv_room (Nat.le_of_ble_eq_true rfl)) dX7_list_9 ⟨Nat.zero_le _, Nat.zero_le _⟩) ?_
    refine lv_icmp_gt (tgt := 171) hx hb dX7_list_12 (by decide) (fun c_12 => ?_) (fun c_12 => ?_)
    · have h := zz_pos c_12 h
      exact hK171 _ _ _ _ h hP hS (lv_sub hl [0] rfl)
    · have h := zz_neg c_12 h
      refine lv_aload_n hx hb dX7_list_15 rfl (lv_at hl 0 rfl) ?_
      refine mG_16 C in_7 hP k_60 dX7_list_16 ?_
      refine lv_iload_n hx hb dX7_list_19 rfl (lv_at hl 1 rfl) ?_
      refine lv_aload_n hx hb dX7_list_20 rfl (lv_at hl 0 rfl) ?_
      refine mG_22 C in_7 hP k_79 dX7_list_21 ?_
      obtain ⟨b_24, h⟩ := chk_of h
      refine mS_16 C hP hD hS b_24 dX7_list_24 (fun H locs hP hS => ?_)
      refine lv_iconst (v := (0 : Int32)) hx hb dX7_list_25 (by decide) ?_
      refine lv_istore_n (lv' := [(2, .int (0 : Int32)), (0, .ref (ρ 40)), (1, .int x1)]) hx hb dX7_list_26 rfl hl (by decide) rfl (fun ls hl => ?_)
      refine wM_list_L27 C hr hlk hD _ _ _ _ _ _ _ h hP hS (lv_sub hl [1, 2, 0] rfl) ?_
      intro σ x1 H locs ls h hP hS hl
      refine lv_iconst (v := (1 : Int32)) hx hb dX7_list_67 (by decide) ?_
      refine lv_istore_n (lv' := [(2, .int (1 : Int32)), (0, .ref (ρ 40)), (1, .int x1)]) hx hb dX7_list_68 rfl hl (by decide) rfl (fun ls hl => ?_)
      refine wM_list_L69 C hr hlk hD _ _ _ _ _ _ _ h hP hS (lv_sub hl [1, 2, 0] rfl) ?_
      intro σ x1 H locs ls h hP hS hl
      refine lv_iload_n hx hb dX7_list_130 rfl (lv_at hl 1 rfl) ?_
      refine lv_aload_n hx hb dX7_list_131 rfl (lv_at hl 0 rfl) ?_
      obtain ⟨r_132, e_132, h⟩ := bnd_of h
      refine callP (W.runV (As := []) C.1 (cM_all e_132) (cwV 0 hts gX7_list_X7_all rfl rfl rfl (by decide +kernel) ⟨by decide, by decide⟩) (mPreR C.2 hP _) rfl rfl hl.1 rfl (lv_room (Nat.le_of_ble_eq_true rfl)) dX7_list_132 ⟨Nat.zero_le _, Nat.zero_le _⟩) ?_
      refine lv_icmp_ne (tgt := 165) hx hb dX7_list_135 (by decide) (fun c_135 => ?_) (fun c_135 => ?_)
      · have h := zz_neg c_135 h
        refine lv_iinc (v := (x1 + 1)) (lv' := [(1, .int (x1 + 1)), (0, .ref (ρ 40))]) hx hb dX7_list_165 hl (k := 1) rfl rfl (by decide) rfl (fun ls hl => ?_)
        refine lv_goto (tgt := 7) hx hb dX7_list_168 (by decide) ?_
        exact ih _ _ _ _ _ h hP hS (lv_sub hl [1, 0] rfl) hK171
      · have h := zz_pos c_135 h
        refine lv_aload_n hx hb dX7_list_138 rfl (lv_at hl 0 rfl) ?_
        refine mG_16 C in_7 hP k_60 dX7_list_139 ?_
        refine lv_iload_n hx hb dX7_list_142 rfl (lv_at hl 1 rfl) ?_
        obtain ⟨b_143, h⟩ := chk_of h
        refine mL_16 C hP b_143 dX7_list_143 ?_
        refine lv_istore_n (lv' := [(2, .int (σ.2.2.1 16 x1.toNatClampNeg)), (0, .ref (ρ 40)), (1, .int x1)]) hx hb dX7_list_144 rfl hl (by decide) rfl (fun ls hl => ?_)
        refine wM_list_L145 C hr hlk hD _ _ _ _ _ _ _ h hP hS (lv_sub hl [1, 2, 0] rfl) ?_
        intro σ x1 H locs ls h hP hS hl
        refine lv_iinc (v := (x1 + 1)) (lv' := [(1, .int (x1 + 1)), (0, .ref (ρ 40))]) hx hb dX7_list_165 hl (k := 1) rfl rfl (by decide) rfl (fun ls hl => ?_)
        refine lv_goto (tgt := 7) hx hb dX7_list_168 (by decide) ?_
        exact ih _ _ _ _ _ h hP hS (lv_sub hl [1, 0] rfl) hK171
set_option maxRecDepth 100000 in
set_option maxHeartbeats 4000000 in
theorem cM_list {l : Launch} {D : va_G} {κ : Nat → ClassId} {ρ : Nat → Nat} {sz : Nat} {N : Nat} {σ : MSt} {q : MSt} (h : fM_list N σ = some q) : Met l yX7_list wsX7_list ({ frames := 4, cells := 0, slots := 0, locals := 93 } : Room) (va_Pc [.ref (ρ 40)] (PM D κ ρ sz σ)) (QM D κ ρ sz q none) 0 0 (AM ρ sz) := by
  refine mMetM (ret := none) (by decide) rfl rfl (Nat.le_of_ble_eq_true rfl) ?_
  intro p e s m below meth c ls C hr hlk hD hP hl
  have hS : va_S (AM ρ s.heap.size) s.heap s.heap [] := va_S.rf
  have hl : lv_has ls 5 [(0, .ref (ρ 40))] := hl
  unfold fM_list at h
  have hx := C.1.1
  have hb := C.1.2.1
  have hts := C.1.2.2.2.2
  have hown := C.1.2.2.2.1
  have k_60 := hts (.fieldLink RX7 60 "PlanCabinetModel" "from" "[I") (by decide +kernel)
  have k_79 := hts (.fieldLink RX7 79 "PlanCabinetModel" "listed" "I") (by decide +kernel)
  have in_7 : ∀ w ∈ wsX70, w ∈ wsX7_list := by decide +kernel
  refine lv_aload_n hx hb dX7_list_0 rfl (lv_at hl 0 rfl) ?_
  refine lv_iconst (v := (0 : Int32)) hx hb dX7_list_1 (by decide) ?_
  refine mP_22 C in_7 hP hD hS k_79 dX7_list_2 (fun H locs hP hS => ?_)
  refine lv_iconst (v := (1 : Int32)) hx hb dX7_list_5 (by decide) ?_
  refine lv_istore_n (lv' := [(1, .int (1 : Int32)), (0, .ref (ρ 40))]) hx hb dX7_list_6 rfl hl (by decide) rfl (fun ls hl => ?_)
  refine wM_list_L7 C hr hlk hD _ _ _ _ _ _ h hP hS (lv_sub hl [1, 0] rfl) ?_
  intro σ H locs ls h hP hS hl
  refine lv_aload_n hx hb dX7_list_171 rfl (lv_at hl 0 rfl) ?_
  refine mG_16 C in_7 hP k_60 dX7_list_172 ?_
  refine lv_aload_n hx hb dX7_list_175 rfl (lv_at hl 0 rfl) ?_
  obtain ⟨r_176, e_176, h⟩ := bnd_of h
  refine callP (W.runV (As := []) C.1 (cM_all e_176) (cwV 0 hts gX7_list_X7_all rfl rfl rfl (by decide +kernel) ⟨by decide, by decide⟩) (mPreR C.2 hP _) rfl rfl hl.1 rfl (lv_room (Nat.le_of_ble_eq_true rfl)) dX7_list_176 ⟨Nat.zero_le _, Nat.zero_le _⟩) ?_
  refine lv_iconst (v := (1 : Int32)) hx hb dX7_list_179 (by decide) ?_
  refine lv_iadd hx hb dX7_list_180 ?_
  refine lv_aload_n hx hb dX7_list_181 rfl (lv_at hl 0 rfl) ?_
  refine mG_22 C in_7 hP k_79 dX7_list_182 ?_
  obtain ⟨b_185, h⟩ := chk_of h
  refine mS_16 C hP hD hS b_185 dX7_list_185 (fun H locs hP hS => ?_)
  exact W.vret hx hb hr (fun t ht hW => ⟨rfl, by rw [ht, ← some_of h]; exact hP, hS.F ht⟩) hS.2.2 dX7_list_186
def fM_find_L7 (N : Nat) (σ : MSt) : Nat → Int32 → Int32 → Option (Int32)
  | 0, _, _ => none
  | n + 1, x2, x3 => chk x3 5000 ((if (σ.2.2.1 17 x3.toNatClampNeg) = x2 then some x3 else fM_find_L7 N σ n x2 (x3 + 1)))
def fM_find (N : Nat) (σ : MSt) (x1 : Int32) (x2 : Int32) : Option (Int32) := chk x1 17 (fM_find_L7 N σ N x2 (σ.2.2.1 16 x1.toNatClampNeg))
set_option maxRecDepth 100000 in
set_option maxHeartbeats 4000000 in
theorem wM_find_L7 {p : Program} {l : Launch} {e : Env} {s : State} {m : MethodId} {args : Array Value} {below : List Frame} {meth : Method} {c : Code} {D : va_G} {κ : Nat → ClassId} {ρ : Nat → Nat} {σ : MSt} (C : MC p m c cX7_find 4 s args wsX7_find D κ) (hr : meth.sig.returnType = (some .int)) (hlk : meth.locks = false) (hP : va_P D vwCl (cellsM κ ρ σ) s.heap) {N : Nat} {r : Int32} : ∀ (n : Nat) (x2 : Int32) (x3 : Int32) (ls : Array Slot), fM_find_L7 N σ n x2 x3 = some r → lv_has ls 4 [(0, .ref (ρ 40)), (2, .int x2), (3, .int x3)] → W p l e ({ frames := 0, cells := 0, slots := 0, locals := 0 } : Room) s m args below meth c s.heap [] 0 0 (MQ below (PU (some (.int r))) args s 0 0 (fun _ => False)) (F0 m 7 ls []) := by
  have hx := C.1.1
  have hb := C.1.2.1
  have hts := C.1.2.2.2.2
  have hown := C.1.2.2.2.1
  have k_63 := hts (.fieldLink RX7 63 "PlanCabinetModel" "code" "[I") (by decide +kernel)
  have in_7 : ∀ w ∈ wsX70, w ∈ wsX7_find := by decide +kernel
  intro n
  induction n with
  | zero =>
    intro x2 x3 ls h hl
    rw [fM_find_L7] at h
    cases h
  | succ n ih =>
    intro x2 x3 ls h hl
    rw [fM_find_L7] at h
    refine lv_aload_n hx hb dX7_find_7 rfl (lv_at hl 0 rfl) ?_
    refine mG_17 C in_7 hP k_63 dX7_find_8 ?_
    refine lv_iload_n hx hb dX7_find_11 rfl (lv_at hl 2 rfl) ?_
    obtain ⟨b_12, h⟩ := chk_of h
    refine mL_17 C hP b_12 dX7_find_12 ?_
    refine lv_iload_n hx hb dX7_find_13 rfl (lv_at hl 1 rfl) ?_
    refine lv_icmp_eq (tgt := 23) hx hb dX7_find_14 (by decide) (fun c_14 => ?_) (fun c_14 => ?_)
    · have h := zz_pos c_14 h
      refine lv_iload_n hx hb dX7_find_23 rfl (lv_at hl 2 rfl) ?_
      exact W.iret hx hb hr (fun t ht hW => ⟨by rw [some_of h], ht⟩) (fun _ h => by cases h) dX7_find_24
    · have h := zz_neg c_14 h
      refine lv_iinc (v := (x3 + 1)) (lv' := [(3, .int (x3 + 1)), (0, .ref (ρ 40)), (2, .int x2)]) hx hb dX7_find_17 hl (k := 2) rfl rfl (by decide) rfl (fun ls hl => ?_)
      refine lv_goto (tgt := 7) hx hb dX7_find_20 (by decide) ?_
      exact ih _ _ _ h (lv_sub hl [1, 2, 0] rfl)
set_option maxRecDepth 100000 in
set_option maxHeartbeats 4000000 in
theorem cM_find {l : Launch} {D : va_G} {κ : Nat → ClassId} {ρ : Nat → Nat} {N : Nat} {σ : MSt} {x1 : Int32} {x2 : Int32} {r : Int32} (h : fM_find N σ x1 x2 = some r) : Met l yX7_find wsX7_find ({ frames := 0, cells := 0, slots := 0, locals := 0 } : Room) (va_Pc [.ref (ρ 40), .int x1, .int x2] (PR D κ ρ σ)) (PU (some (.int r))) 0 0 (fun _ => False) := by
  refine mMetR (ret := (some .int)) (by decide) rfl rfl (Nat.le_of_ble_eq_true rfl) ?_
  intro p e s m below meth c ls C hr hlk hP hl
  have hl : lv_has ls 4 [(0, .ref (ρ 40)), (1, .int x1), (2, .int x2)] := hl
  unfold fM_find at h
  have hx := C.1.1
  have hb := C.1.2.1
  have hts := C.1.2.2.2.2
  have hown := C.1.2.2.2.1
  have k_60 := hts (.fieldLink RX7 60 "PlanCabinetModel" "from" "[I") (by decide +kernel)
  have in_7 : ∀ w ∈ wsX70, w ∈ wsX7_find := by decide +kernel
  refine lv_aload_n hx hb dX7_find_0 rfl (lv_at hl 0 rfl) ?_
  refine mG_16 C in_7 hP k_60 dX7_find_1 ?_
  refine lv_iload_n hx hb dX7_find_4 rfl (lv_at hl 1 rfl) ?_
  obtain ⟨b_5, h⟩ := chk_of h
  refine mL_16 C hP b_5 dX7_find_5 ?_
  refine lv_istore_n (lv' := [(3, .int (σ.2.2.1 16 x1.toNatClampNeg)), (0, .ref (ρ 40)), (1, .int x1), (2, .int x2)]) hx hb dX7_find_6 rfl hl (by decide) rfl (fun ls hl => ?_)
  exact wM_find_L7 C hr hlk hP _ _ _ _ h (lv_sub hl [1, 3, 0] rfl)
def fM_kept (N : Nat) (σ : MSt) (x1 : Int32) (x2 : Int32) : Option (Int32 × MSt) := (if (σ.1 11) = (60 : Int32) then some ((-4 : Int32), σ) else chk (σ.1 11) 60 (chk ((sA σ 12 (σ.1 11).toNatClampNeg x1).1 11) 60 (some ((((sI (sA (sA σ 12 (σ.1 11).toNatClampNeg x1) 13 ((sA σ 12 (σ.1 11).toNatClampNeg x1).1 11).toNatClampNeg x2) 11 (((sA (sA σ 12 (σ.1 11).toNatClampNeg x1) 13 ((sA σ 12 (σ.1 11).toNatClampNeg x1).1 11).toNatClampNeg x2).1 11) + (1 : Int32))).1 11) - (1 : Int32)), (sI (sA (sA σ 12 (σ.1 11).toNatClampNeg x1) 13 ((sA σ 12 (σ.1 11).toNatClampNeg x1).1 11).toNatClampNeg x2) 11 (((sA (sA σ 12 (σ.1 11).toNatClampNeg x1) 13 ((sA σ 12 (σ.1 11).toNatClampNeg x1).1 11).toNatClampNeg x2).1 11) + (1 : Int32)))))))
set_option maxRecDepth 100000 in
set_option maxHeartbeats 4000000 in
theorem cM_kept {l : Launch} {D : va_G} {κ : Nat → ClassId} {ρ : Nat → Nat} {sz : Nat} {N : Nat} {σ : MSt} {x1 : Int32} {x2 : Int32} {q : Int32 × MSt} (h : fM_kept N σ x1 x2 = some q) : Met l yX7_kept wsX7_kept ({ frames := 0, cells := 0, slots := 0, locals := 0 } : Room) (va_Pc [.ref (ρ 40), .int x1, .int x2] (PM D κ ρ sz σ)) (QM D κ ρ sz q.2 (some (.int q.1))) 0 0 (AM ρ sz) := by
  refine mMetM (ret := (some .int)) (by decide) rfl rfl (Nat.le_of_ble_eq_true rfl) ?_
  intro p e s m below meth c ls C hr hlk hD hP hl
  have hS : va_S (AM ρ s.heap.size) s.heap s.heap [] := va_S.rf
  have hl : lv_has ls 3 [(0, .ref (ρ 40)), (1, .int x1), (2, .int x2)] := hl
  unfold fM_kept at h
  have hx := C.1.1
  have hb := C.1.2.1
  have hts := C.1.2.2.2.2
  have hown := C.1.2.2.2.1
  have k_44 := hts (.fieldLink RX7 44 "PlanCabinetModel" "plans" "I") (by decide +kernel)
  have k_47 := hts (.fieldLink RX7 47 "PlanCabinetModel" "planCode" "[I") (by decide +kernel)
  have k_50 := hts (.fieldLink RX7 50 "PlanCabinetModel" "planSet" "[I") (by decide +kernel)
  have in_7 : ∀ w ∈ wsX70, w ∈ wsX7_kept := by decide +kernel
  refine lv_aload_n hx hb dX7_kept_0 rfl (lv_at hl 0 rfl) ?_
  refine mG_11 C in_7 hP k_44 dX7_kept_1 ?_
  refine lv_bipush (v := (60 : Int32)) hx hb dX7_kept_4 (by decide) ?_
  refine lv_icmp_ne (tgt := 12) hx hb dX7_kept_6 (by decide) (fun c_6 => ?_) (fun c_6 => ?_)
  · have h := zz_neg c_6 h
    refine lv_aload_n hx hb dX7_kept_12 rfl (lv_at hl 0 rfl) ?_
    refine mG_12 C in_7 hP k_47 dX7_kept_13 ?_
    refine lv_aload_n hx hb dX7_kept_16 rfl (lv_at hl 0 rfl) ?_
    refine mG_11 C in_7 hP k_44 dX7_kept_17 ?_
    refine lv_iload_n hx hb dX7_kept_20 rfl (lv_at hl 1 rfl) ?_
    obtain ⟨b_21, h⟩ := chk_of h
    refine mS_12 C hP hD hS b_21 dX7_kept_21 (fun H locs hP hS => ?_)
    refine lv_aload_n hx hb dX7_kept_22 rfl (lv_at hl 0 rfl) ?_
    refine mG_13 C in_7 hP k_50 dX7_kept_23 ?_
    refine lv_aload_n hx hb dX7_kept_26 rfl (lv_at hl 0 rfl) ?_
    refine mG_11 C in_7 hP k_44 dX7_kept_27 ?_
    refine lv_iload_n hx hb dX7_kept_30 rfl (lv_at hl 2 rfl) ?_
    obtain ⟨b_31, h⟩ := chk_of h
    refine mS_13 C hP hD hS b_31 dX7_kept_31 (fun H locs hP hS => ?_)
    refine lv_aload_n hx hb dX7_kept_32 rfl (lv_at hl 0 rfl) ?_
    refine lv_dup hx hb dX7_kept_33 rfl ?_
    refine mG_11 C in_7 hP k_44 dX7_kept_34 ?_
    refine lv_iconst (v := (1 : Int32)) hx hb dX7_kept_37 (by decide) ?_
    refine lv_iadd hx hb dX7_kept_38 ?_
    refine mP_11 C in_7 hP hD hS k_44 dX7_kept_39 (fun H locs hP hS => ?_)
    refine lv_aload_n hx hb dX7_kept_42 rfl (lv_at hl 0 rfl) ?_
    refine mG_11 C in_7 hP k_44 dX7_kept_43 ?_
    refine lv_iconst (v := (1 : Int32)) hx hb dX7_kept_46 (by decide) ?_
    refine lv_isub hx hb dX7_kept_47 ?_
    exact W.iret hx hb hr (fun t ht hW => ⟨by rw [← some_of h], by rw [ht, ← some_of h]; exact hP, hS.F ht⟩) hS.2.2 dX7_kept_48
  · have h := zz_pos c_6 h
    refine lv_bipush (v := (-4 : Int32)) hx hb dX7_kept_9 (by decide) ?_
    exact W.iret hx hb hr (fun t ht hW => ⟨by rw [← some_of h], by rw [ht, ← some_of h]; exact hP, hS.F ht⟩) hS.2.2 dX7_kept_11
def fM_isPlan (N : Nat) (σ : MSt) (x1 : Int32) : Option (Int32) := (if x1 < 0 then some (0 : Int32) else (if (σ.1 11) ≤ x1 then some (0 : Int32) else some (1 : Int32)))
set_option maxRecDepth 100000 in
set_option maxHeartbeats 4000000 in
theorem cM_isPlan {l : Launch} {D : va_G} {κ : Nat → ClassId} {ρ : Nat → Nat} {N : Nat} {σ : MSt} {x1 : Int32} {r : Int32} (h : fM_isPlan N σ x1 = some r) : Met l yX7_isPlan wsX7_isPlan ({ frames := 0, cells := 0, slots := 0, locals := 0 } : Room) (va_Pc [.ref (ρ 40), .int x1] (PR D κ ρ σ)) (PU (some (.int r))) 0 0 (fun _ => False) := by
  refine mMetR (ret := (some .boolean)) (by decide) rfl rfl (Nat.le_of_ble_eq_true rfl) ?_
  intro p e s m below meth c ls C hr hlk hP hl
  have hl : lv_has ls 2 [(0, .ref (ρ 40)), (1, .int x1)] := hl
  unfold fM_isPlan at h
  have hx := C.1.1
  have hb := C.1.2.1
  have hts := C.1.2.2.2.2
  have hown := C.1.2.2.2.1
  have k_44 := hts (.fieldLink RX7 44 "PlanCabinetModel" "plans" "I") (by decide +kernel)
  have in_7 : ∀ w ∈ wsX70, w ∈ wsX7_isPlan := by decide +kernel
  refine lv_iload_n hx hb dX7_isPlan_0 rfl (lv_at hl 1 rfl) ?_
  refine lv_if_lt (tgt := 16) hx hb dX7_isPlan_1 (by decide) (fun c_1 => ?_) (fun c_1 => ?_)
  · have h := zz_pos c_1 h
    refine lv_iconst (v := (0 : Int32)) hx hb dX7_isPlan_16 (by decide) ?_
    exact W.zret (ty := .boolean) hx hb hr (by decide +kernel) (fun t ht hW => ⟨by rw [some_of h], ht⟩) (fun _ h => by cases h) dX7_isPlan_17
  · have h := zz_neg c_1 h
    refine lv_iload_n hx hb dX7_isPlan_4 rfl (lv_at hl 1 rfl) ?_
    refine lv_aload_n hx hb dX7_isPlan_5 rfl (lv_at hl 0 rfl) ?_
    refine mG_11 C in_7 hP k_44 dX7_isPlan_6 ?_
    refine lv_icmp_ge (tgt := 16) hx hb dX7_isPlan_9 (by decide) (fun c_9 => ?_) (fun c_9 => ?_)
    · have h := zz_pos c_9 h
      refine lv_iconst (v := (0 : Int32)) hx hb dX7_isPlan_16 (by decide) ?_
      exact W.zret (ty := .boolean) hx hb hr (by decide +kernel) (fun t ht hW => ⟨by rw [some_of h], ht⟩) (fun _ h => by cases h) dX7_isPlan_17
    · have h := zz_neg c_9 h
      refine lv_iconst (v := (1 : Int32)) hx hb dX7_isPlan_12 (by decide) ?_
      refine lv_goto (tgt := 17) hx hb dX7_isPlan_13 (by decide) ?_
      exact W.zret (ty := .boolean) hx hb hr (by decide +kernel) (fun t ht hW => ⟨by rw [some_of h], ht⟩) (fun _ h => by cases h) dX7_isPlan_17
def fM_read (N : Nat) (σ : MSt) (x1 : Int32) : Option (Int32 × MSt) := (fM_isTable N σ x1).bind fun r_2 => (if r_2 = 0 then some ((-1 : Int32), σ) else (fM_isWhole N σ).bind fun r_11 => (if r_11 = 0 then some ((-3 : Int32), σ) else (fM_kept N σ x1 ((1 : Int32) <<< (x1 &&& 31))).bind fun r_25 => some (r_25.1, r_25.2)))
set_option maxRecDepth 100000 in
set_option maxHeartbeats 4000000 in
theorem cM_read {l : Launch} {D : va_G} {κ : Nat → ClassId} {ρ : Nat → Nat} {sz : Nat} {N : Nat} {σ : MSt} {x1 : Int32} {q : Int32 × MSt} (h : fM_read N σ x1 = some q) : Met l yX7_read wsX7_read ({ frames := 2, cells := 0, slots := 0, locals := 48 } : Room) (va_Pc [.ref (ρ 40), .int x1] (PM D κ ρ sz σ)) (QM D κ ρ sz q.2 (some (.int q.1))) 0 0 (AM ρ sz) := by
  refine mMetM (ret := (some .int)) (by decide) rfl rfl (Nat.le_of_ble_eq_true rfl) ?_
  intro p e s m below meth c ls C hr hlk hD hP hl
  have hS : va_S (AM ρ s.heap.size) s.heap s.heap [] := va_S.rf
  have hl : lv_has ls 2 [(0, .ref (ρ 40)), (1, .int x1)] := hl
  unfold fM_read at h
  have hx := C.1.1
  have hb := C.1.2.1
  have hts := C.1.2.2.2.2
  have hown := C.1.2.2.2.1
  refine lv_aload_n hx hb dX7_read_0 rfl (lv_at hl 0 rfl) ?_
  refine lv_iload_n hx hb dX7_read_1 rfl (lv_at hl 1 rfl) ?_
  obtain ⟨r_2, e_2, h⟩ := bnd_of h
  refine callP (W.runV (As := [.int x1]) C.1 (cM_isTable e_2) (cwV 1 hts gX7_read_X7_isTable rfl rfl rfl (by decide +kernel) ⟨by decide, by decide⟩) (mPreR C.2 hP _) rfl rfl hl.1 rfl (lv_room (Nat.le_of_ble_eq_true rfl)) dX7_read_2 ⟨Nat.zero_le _, Nat.zero_le _⟩) ?_
  refine lv_if_ne (tgt := 10) hx hb dX7_read_5 (by decide) (fun c_5 => ?_) (fun c_5 => ?_)
  · have h := zz_neg c_5 h
    refine lv_aload_n hx hb dX7_read_10 rfl (lv_at hl 0 rfl) ?_
    obtain ⟨r_11, e_11, h⟩ := bnd_of h
    refine callP (W.runV (As := []) C.1 (cM_isWhole e_11) (cwV 0 hts gX7_read_X7_isWhole rfl rfl rfl (by decide +kernel) ⟨by decide, by decide⟩) (mPreR C.2 hP _) rfl rfl hl.1 rfl (lv_room (Nat.le_of_ble_eq_true rfl)) dX7_read_11 ⟨Nat.zero_le _, Nat.zero_le _⟩) ?_
    refine lv_if_ne (tgt := 20) hx hb dX7_read_14 (by decide) (fun c_14 => ?_) (fun c_14 => ?_)
    · have h := zz_neg c_14 h
      refine lv_aload_n hx hb dX7_read_20 rfl (lv_at hl 0 rfl) ?_
      refine lv_iload_n hx hb dX7_read_21 rfl (lv_at hl 1 rfl) ?_
      refine lv_iconst (v := (1 : Int32)) hx hb dX7_read_22 (by decide) ?_
      refine lv_iload_n hx hb dX7_read_23 rfl (lv_at hl 1 rfl) ?_
      refine lv_ishl hx hb dX7_read_24 ?_
      obtain ⟨r_25, e_25, h⟩ := bnd_of h
      refine mCall (va_runV (As := [.int x1, .int ((1 : Int32) <<< (x1 &&& 31))]) C.1 (cM_kept e_25) (cwV 2 hts gX7_read_X7_kept rfl rfl rfl (by decide +kernel) ⟨by decide, by decide⟩) (mPreM C.2 hP hD _) rfl rfl hl.1 rfl (lv_room (Nat.le_of_ble_eq_true rfl)) dX7_read_25 ⟨Nat.zero_le _, Nat.zero_le _⟩) hS hD (fun _ h => Or.inr h) (fun H locs hP hS => ?_)
      exact W.iret hx hb hr (fun t ht hW => ⟨by rw [← some_of h], by rw [ht, ← some_of h]; exact hP, hS.F ht⟩) hS.2.2 dX7_read_28
    · have h := zz_pos c_14 h
      refine lv_bipush (v := (-3 : Int32)) hx hb dX7_read_17 (by decide) ?_
      exact W.iret hx hb hr (fun t ht hW => ⟨by rw [← some_of h], by rw [ht, ← some_of h]; exact hP, hS.F ht⟩) hS.2.2 dX7_read_19
  · have h := zz_pos c_5 h
    refine lv_iconst (v := (-1 : Int32)) hx hb dX7_read_8 (by decide) ?_
    exact W.iret hx hb hr (fun t ht hW => ⟨by rw [← some_of h], by rw [ht, ← some_of h]; exact hP, hS.F ht⟩) hS.2.2 dX7_read_9
def fM_join (N : Nat) (σ : MSt) (x1 : Int32) (x2 : Int32) (x3 : Int32) : Option (Int32 × MSt) := (fM_isPlan N σ x2).bind fun r_2 => (if r_2 = 0 then some ((-1 : Int32), σ) else (fM_isPlan N σ x3).bind fun r_10 => (if r_10 = 0 then some ((-1 : Int32), σ) else (if x1 < 0 then some ((-2 : Int32), σ) else (if x1 ≤ (2 : Int32) then chk x2 60 (chk x3 60 ((if ((σ.2.2.1 13 x2.toNatClampNeg) &&& (σ.2.2.1 13 x3.toNatClampNeg)) = 0 then (fM_between N σ (σ.2.2.1 13 x2.toNatClampNeg) (σ.2.2.1 13 x3.toNatClampNeg)).bind fun r_59 => (if 0 ≤ r_59 then (fM_digits N σ (σ.2.2.1 13 x2.toNatClampNeg)).bind fun r_77 => (fM_shifted N σ ((4 : Int32) + x1) r_77).bind fun r_80 => chk x2 60 ((fM_digits N σ (σ.2.2.1 13 x3.toNatClampNeg)).bind fun r_93 => (fM_shifted N σ (r_80 + (σ.2.2.1 12 x2.toNatClampNeg)) r_93).bind fun r_96 => chk x3 60 ((fM_kept N σ (r_96 + (σ.2.2.1 12 x3.toNatClampNeg)) ((σ.2.2.1 13 x2.toNatClampNeg) ||| (σ.2.2.1 13 x3.toNatClampNeg))).bind fun r_111 => some (r_111.1, r_111.2))) else some ((-3 : Int32), σ)) else some ((-3 : Int32), σ)))) else some ((-2 : Int32), σ)))))
set_option maxRecDepth 100000 in
set_option maxHeartbeats 4000000 in
theorem cM_join {l : Launch} {D : va_G} {κ : Nat → ClassId} {ρ : Nat → Nat} {sz : Nat} {N : Nat} {σ : MSt} {x1 : Int32} {x2 : Int32} {x3 : Int32} {q : Int32 × MSt} (h : fM_join N σ x1 x2 x3 = some q) : Met l yX7_join wsX7_join ({ frames := 2, cells := 0, slots := 0, locals := 48 } : Room) (va_Pc [.ref (ρ 40), .int x1, .int x2, .int x3] (PM D κ ρ sz σ)) (QM D κ ρ sz q.2 (some (.int q.1))) 0 0 (AM ρ sz) := by
  refine mMetM (ret := (some .int)) (by decide) rfl rfl (Nat.le_of_ble_eq_true rfl) ?_
  intro p e s m below meth c ls C hr hlk hD hP hl
  have hS : va_S (AM ρ s.heap.size) s.heap s.heap [] := va_S.rf
  have hl : lv_has ls 6 [(0, .ref (ρ 40)), (1, .int x1), (2, .int x2), (3, .int x3)] := hl
  unfold fM_join at h
  have hx := C.1.1
  have hb := C.1.2.1
  have hts := C.1.2.2.2.2
  have hown := C.1.2.2.2.1
  have k_47 := hts (.fieldLink RX7 47 "PlanCabinetModel" "planCode" "[I") (by decide +kernel)
  have k_50 := hts (.fieldLink RX7 50 "PlanCabinetModel" "planSet" "[I") (by decide +kernel)
  have in_7 : ∀ w ∈ wsX70, w ∈ wsX7_join := by decide +kernel
  refine lv_aload_n hx hb dX7_join_0 rfl (lv_at hl 0 rfl) ?_
  refine lv_iload_n hx hb dX7_join_1 rfl (lv_at hl 2 rfl) ?_
  obtain ⟨r_2, e_2, h⟩ := bnd_of h
  refine callP (W.runV (As := [.int x2]) C.1 (cM_isPlan e_2) (cwV 1 hts gX7_join_X7_isPlan rfl rfl rfl (by decide +kernel) ⟨by decide, by decide⟩) (mPreR C.2 hP _) rfl rfl hl.1 rfl (lv_room (Nat.le_of_ble_eq_true rfl)) dX7_join_2 ⟨Nat.zero_le _, Nat.zero_le _⟩) ?_
  refine lv_if_eq (tgt := 16) hx hb dX7_join_5 (by decide) (fun c_5 => ?_) (fun c_5 => ?_)
  · have h := zz_pos c_5 h
    refine lv_iconst (v := (-1 : Int32)) hx hb dX7_join_16 (by decide) ?_
    exact W.iret hx hb hr (fun t ht hW => ⟨by rw [← some_of h], by rw [ht, ← some_of h]; exact hP, hS.F ht⟩) hS.2.2 dX7_join_17
  · have h := zz_neg c_5 h
    refine lv_aload_n hx hb dX7_join_8 rfl (lv_at hl 0 rfl) ?_
    refine lv_iload_n hx hb dX7_join_9 rfl (lv_at hl 3 rfl) ?_
    obtain ⟨r_10, e_10, h⟩ := bnd_of h
    refine callP (W.runV (As := [.int x3]) C.1 (cM_isPlan e_10) (cwV 1 hts gX7_join_X7_isPlan rfl rfl rfl (by decide +kernel) ⟨by decide, by decide⟩) (mPreR C.2 hP _) rfl rfl hl.1 rfl (lv_room (Nat.le_of_ble_eq_true rfl)) dX7_join_10 ⟨Nat.zero_le _, Nat.zero_le _⟩) ?_
    refine lv_if_ne (tgt := 18) hx hb dX7_join_13 (by decide) (fun c_13 => ?_) (fun c_13 => ?_)
    · have h := zz_neg c_13 h
      refine lv_iload_n hx hb dX7_join_18 rfl (lv_at hl 1 rfl) ?_
      refine lv_if_lt (tgt := 27) hx hb dX7_join_19 (by decide) (fun c_19 => ?_) (fun c_19 => ?_)
      · have h := zz_pos c_19 h
        refine lv_bipush (v := (-2 : Int32)) hx hb dX7_join_27 (by decide) ?_
        exact W.iret hx hb hr (fun t ht hW => ⟨by rw [← some_of h], by rw [ht, ← some_of h]; exact hP, hS.F ht⟩) hS.2.2 dX7_join_29
      · have h := zz_neg c_19 h
        refine lv_iload_n hx hb dX7_join_22 rfl (lv_at hl 1 rfl) ?_
        refine lv_iconst (v := (2 : Int32)) hx hb dX7_join_23 (by decide) ?_
        refine lv_icmp_le (tgt := 30) hx hb dX7_join_24 (by decide) (fun c_24 => ?_) (fun c_24 => ?_)
        · have h := zz_pos c_24 h
          refine lv_aload_n hx hb dX7_join_30 rfl (lv_at hl 0 rfl) ?_
          refine mG_13 C in_7 hP k_50 dX7_join_31 ?_
          refine lv_iload_n hx hb dX7_join_34 rfl (lv_at hl 2 rfl) ?_
          obtain ⟨b_35, h⟩ := chk_of h
          refine mL_13 C hP b_35 dX7_join_35 ?_
          refine lv_istore (lv' := [(4, .int (σ.2.2.1 13 x2.toNatClampNeg)), (0, .ref (ρ 40)), (1, .int x1), (2, .int x2), (3, .int x3)]) hx hb dX7_join_36 hl (by decide) rfl (fun ls hl => ?_)
          refine lv_aload_n hx hb dX7_join_38 rfl (lv_at hl 1 rfl) ?_
          refine mG_13 C in_7 hP k_50 dX7_join_39 ?_
          refine lv_iload_n hx hb dX7_join_42 rfl (lv_at hl 4 rfl) ?_
          obtain ⟨b_43, h⟩ := chk_of h
          refine mL_13 C hP b_43 dX7_join_43 ?_
          refine lv_istore (lv' := [(5, .int (σ.2.2.1 13 x3.toNatClampNeg)), (4, .int (σ.2.2.1 13 x2.toNatClampNeg)), (0, .ref (ρ 40)), (1, .int x1), (2, .int x2), (3, .int x3)]) hx hb dX7_join_44 hl (by decide) rfl (fun ls hl => ?_)
          refine lv_iload hx hb dX7_join_46 (lv_at hl 1 rfl) ?_
          refine lv_iload hx hb dX7_join_48 (lv_at hl 0 rfl) ?_
          refine lv_iand hx hb dX7_join_50 ?_
          refine lv_if_ne (tgt := 65) hx hb dX7_join_51 (by decide) (fun c_51 => ?_) (fun c_51 => ?_)
          · have h := zz_neg c_51 h
            refine lv_bipush (v := (-3 : Int32)) hx hb dX7_join_65 (by decide) ?_
            exact W.iret hx hb hr (fun t ht hW => ⟨by rw [← some_of h], by rw [ht, ← some_of h]; exact hP, hS.F ht⟩) hS.2.2 dX7_join_67
          · have h := zz_pos c_51 h
            refine lv_aload_n hx hb dX7_join_54 rfl (lv_at hl 2 rfl) ?_
            refine lv_iload hx hb dX7_join_55 (lv_at hl 1 rfl) ?_
            refine lv_iload hx hb dX7_join_57 (lv_at hl 0 rfl) ?_
            obtain ⟨r_59, e_59, h⟩ := bnd_of h
            refine callP (W.runV (As := [.int (σ.2.2.1 13 x2.toNatClampNeg), .int (σ.2.2.1 13 x3.toNatClampNeg)]) C.1 (cM_between e_59) (cwV 2 hts gX7_join_X7_between rfl rfl rfl (by decide +kernel) ⟨by decide, by decide⟩) (mPreR C.2 hP _) rfl rfl hl.1 rfl (lv_room (Nat.le_of_ble_eq_true rfl)) dX7_join_59 ⟨Nat.zero_le _, Nat.zero_le _⟩) ?_
            refine lv_if_ge (tgt := 68) hx hb dX7_join_62 (by decide) (fun c_62 => ?_) (fun c_62 => ?_)
            · have h := zz_pos c_62 h
              refine lv_aload_n hx hb dX7_join_68 rfl (lv_at hl 2 rfl) ?_
              refine lv_aload_n hx hb dX7_join_69 rfl (lv_at hl 2 rfl) ?_
              refine lv_aload_n hx hb dX7_join_70 rfl (lv_at hl 2 rfl) ?_
              refine lv_iconst (v := (4 : Int32)) hx hb dX7_join_71 (by decide) ?_
              refine lv_iload_n hx hb dX7_join_72 rfl (lv_at hl 3 rfl) ?_
              refine lv_iadd hx hb dX7_join_73 ?_
              refine lv_aload_n hx hb dX7_join_74 rfl (lv_at hl 2 rfl) ?_
              refine lv_iload hx hb dX7_join_75 (lv_at hl 1 rfl) ?_
              obtain ⟨r_77, e_77, h⟩ := bnd_of h
              refine callP (W.runV (As := [.int (σ.2.2.1 13 x2.toNatClampNeg)]) C.1 (cM_digits e_77) (cwV 1 hts gX7_join_X7_digits rfl rfl rfl (by decide +kernel) ⟨by decide, by decide⟩) (mPreR C.2 hP _) rfl rfl hl.1 rfl (lv_room (Nat.le_of_ble_eq_true rfl)) dX7_join_77 ⟨Nat.zero_le _, Nat.zero_le _⟩) ?_
              obtain ⟨r_80, e_80, h⟩ := bnd_of h
              refine callP (W.runV (As := [.int ((4 : Int32) + x1), .int r_77]) C.1 (cM_shifted e_80) (cwV 2 hts gX7_join_X7_shifted rfl rfl rfl (by decide +kernel) ⟨by decide, by decide⟩) (mPreR C.2 hP _) rfl rfl hl.1 rfl (lv_room (Nat.le_of_ble_eq_true rfl)) dX7_join_80 ⟨Nat.zero_le _, Nat.zero_le _⟩) ?_
              refine lv_aload_n hx hb dX7_join_83 rfl (lv_at hl 2 rfl) ?_
              refine mG_12 C in_7 hP k_47 dX7_join_84 ?_
              refine lv_iload_n hx hb dX7_join_87 rfl (lv_at hl 4 rfl) ?_
              obtain ⟨b_88, h⟩ := chk_of h
              refine mL_12 C hP b_88 dX7_join_88 ?_
              refine lv_iadd hx hb dX7_join_89 ?_
              refine lv_aload_n hx hb dX7_join_90 rfl (lv_at hl 2 rfl) ?_
              refine lv_iload hx hb dX7_join_91 (lv_at hl 0 rfl) ?_
              obtain ⟨r_93, e_93, h⟩ := bnd_of h
              refine callP (W.runV (As := [.int (σ.2.2.1 13 x3.toNatClampNeg)]) C.1 (cM_digits e_93) (cwV 1 hts gX7_join_X7_digits rfl rfl rfl (by decide +kernel) ⟨by decide, by decide⟩) (mPreR C.2 hP _) rfl rfl hl.1 rfl (lv_room (Nat.le_of_ble_eq_true rfl)) dX7_join_93 ⟨Nat.zero_le _, Nat.zero_le _⟩) ?_
              obtain ⟨r_96, e_96, h⟩ := bnd_of h
              refine callP (W.runV (As := [.int (r_80 + (σ.2.2.1 12 x2.toNatClampNeg)), .int r_93]) C.1 (cM_shifted e_96) (cwV 2 hts gX7_join_X7_shifted rfl rfl rfl (by decide +kernel) ⟨by decide, by decide⟩) (mPreR C.2 hP _) rfl rfl hl.1 rfl (lv_room (Nat.le_of_ble_eq_true rfl)) dX7_join_96 ⟨Nat.zero_le _, Nat.zero_le _⟩) ?_
              refine lv_aload_n hx hb dX7_join_99 rfl (lv_at hl 2 rfl) ?_
              refine mG_12 C in_7 hP k_47 dX7_join_100 ?_
              refine lv_iload_n hx hb dX7_join_103 rfl (lv_at hl 5 rfl) ?_
              obtain ⟨b_104, h⟩ := chk_of h
              refine mL_12 C hP b_104 dX7_join_104 ?_
              refine lv_iadd hx hb dX7_join_105 ?_
              refine lv_iload hx hb dX7_join_106 (lv_at hl 1 rfl) ?_
              refine lv_iload hx hb dX7_join_108 (lv_at hl 0 rfl) ?_
              refine lv_ior hx hb dX7_join_110 ?_
              obtain ⟨r_111, e_111, h⟩ := bnd_of h
              refine mCall (va_runV (As := [.int (r_96 + (σ.2.2.1 12 x3.toNatClampNeg)), .int ((σ.2.2.1 13 x2.toNatClampNeg) ||| (σ.2.2.1 13 x3.toNatClampNeg))]) C.1 (cM_kept e_111) (cwV 2 hts gX7_join_X7_kept rfl rfl rfl (by decide +kernel) ⟨by decide, by decide⟩) (mPreM C.2 hP hD _) rfl rfl hl.1 rfl (lv_room (Nat.le_of_ble_eq_true rfl)) dX7_join_111 ⟨Nat.zero_le _, Nat.zero_le _⟩) hS hD (fun _ h => Or.inr h) (fun H locs hP hS => ?_)
              exact W.iret hx hb hr (fun t ht hW => ⟨by rw [← some_of h], by rw [ht, ← some_of h]; exact hP, hS.F ht⟩) hS.2.2 dX7_join_114
            · have h := zz_neg c_62 h
              refine lv_bipush (v := (-3 : Int32)) hx hb dX7_join_65 (by decide) ?_
              exact W.iret hx hb hr (fun t ht hW => ⟨by rw [← some_of h], by rw [ht, ← some_of h]; exact hP, hS.F ht⟩) hS.2.2 dX7_join_67
        · have h := zz_neg c_24 h
          refine lv_bipush (v := (-2 : Int32)) hx hb dX7_join_27 (by decide) ?_
          exact W.iret hx hb hr (fun t ht hW => ⟨by rw [← some_of h], by rw [ht, ← some_of h]; exact hP, hS.F ht⟩) hS.2.2 dX7_join_29
    · have h := zz_pos c_13 h
      refine lv_iconst (v := (-1 : Int32)) hx hb dX7_join_16 (by decide) ?_
      exact W.iret hx hb hr (fun t ht hW => ⟨by rw [← some_of h], by rw [ht, ← some_of h]; exact hP, hS.F ht⟩) hS.2.2 dX7_join_17
def fM_code (N : Nat) (σ : MSt) (x1 : Int32) (x2 : Int32) : Option (Int32) := (fM_isPlan N σ x1).bind fun r_2 => (if r_2 = 0 then some (-1 : Int32) else chk x1 60 ((fM_digits N σ (σ.2.2.1 13 x1.toNatClampNeg)).bind fun r_17 => (if x2 < 0 then some (-1 : Int32) else (if x2 < r_17 then chk x1 60 (some (((σ.2.2.1 12 x1.toNatClampNeg) >>> (((3 : Int32) * ((r_17 - (1 : Int32)) - x2)) &&& 31)) &&& (7 : Int32))) else some (-1 : Int32)))))
set_option maxRecDepth 100000 in
set_option maxHeartbeats 4000000 in
theorem cM_code {l : Launch} {D : va_G} {κ : Nat → ClassId} {ρ : Nat → Nat} {N : Nat} {σ : MSt} {x1 : Int32} {x2 : Int32} {r : Int32} (h : fM_code N σ x1 x2 = some r) : Met l yX7_code wsX7_code ({ frames := 2, cells := 0, slots := 0, locals := 44 } : Room) (va_Pc [.ref (ρ 40), .int x1, .int x2] (PR D κ ρ σ)) (PU (some (.int r))) 0 0 (fun _ => False) := by
  refine mMetR (ret := (some .int)) (by decide) rfl rfl (Nat.le_of_ble_eq_true rfl) ?_
  intro p e s m below meth c ls C hr hlk hP hl
  have hl : lv_has ls 4 [(0, .ref (ρ 40)), (1, .int x1), (2, .int x2)] := hl
  unfold fM_code at h
  have hx := C.1.1
  have hb := C.1.2.1
  have hts := C.1.2.2.2.2
  have hown := C.1.2.2.2.1
  have k_47 := hts (.fieldLink RX7 47 "PlanCabinetModel" "planCode" "[I") (by decide +kernel)
  have k_50 := hts (.fieldLink RX7 50 "PlanCabinetModel" "planSet" "[I") (by decide +kernel)
  have in_7 : ∀ w ∈ wsX70, w ∈ wsX7_code := by decide +kernel
  refine lv_aload_n hx hb dX7_code_0 rfl (lv_at hl 0 rfl) ?_
  refine lv_iload_n hx hb dX7_code_1 rfl (lv_at hl 1 rfl) ?_
  obtain ⟨r_2, e_2, h⟩ := bnd_of h
  refine callP (W.runV (As := [.int x1]) C.1 (cM_isPlan e_2) (cwV 1 hts gX7_code_X7_isPlan rfl rfl rfl (by decide +kernel) ⟨by decide, by decide⟩) (mPreR C.2 hP _) rfl rfl hl.1 rfl (lv_room (Nat.le_of_ble_eq_true rfl)) dX7_code_2 ⟨Nat.zero_le _, Nat.zero_le _⟩) ?_
  refine lv_if_ne (tgt := 10) hx hb dX7_code_5 (by decide) (fun c_5 => ?_) (fun c_5 => ?_)
  · have h := zz_neg c_5 h
    refine lv_aload_n hx hb dX7_code_10 rfl (lv_at hl 0 rfl) ?_
    refine lv_aload_n hx hb dX7_code_11 rfl (lv_at hl 0 rfl) ?_
    refine mG_13 C in_7 hP k_50 dX7_code_12 ?_
    refine lv_iload_n hx hb dX7_code_15 rfl (lv_at hl 1 rfl) ?_
    obtain ⟨b_16, h⟩ := chk_of h
    refine mL_13 C hP b_16 dX7_code_16 ?_
    obtain ⟨r_17, e_17, h⟩ := bnd_of h
    refine callP (W.runV (As := [.int (σ.2.2.1 13 x1.toNatClampNeg)]) C.1 (cM_digits e_17) (cwV 1 hts gX7_code_X7_digits rfl rfl rfl (by decide +kernel) ⟨by decide, by decide⟩) (mPreR C.2 hP _) rfl rfl hl.1 rfl (lv_room (Nat.le_of_ble_eq_true rfl)) dX7_code_17 ⟨Nat.zero_le _, Nat.zero_le _⟩) ?_
    refine lv_istore_n (lv' := [(3, .int r_17), (0, .ref (ρ 40)), (1, .int x1), (2, .int x2)]) hx hb dX7_code_20 rfl hl (by decide) rfl (fun ls hl => ?_)
    refine lv_iload_n hx hb dX7_code_21 rfl (lv_at hl 3 rfl) ?_
    refine lv_if_lt (tgt := 30) hx hb dX7_code_22 (by decide) (fun c_22 => ?_) (fun c_22 => ?_)
    · have h := zz_pos c_22 h
      refine lv_iconst (v := (-1 : Int32)) hx hb dX7_code_30 (by decide) ?_
      refine lv_goto (tgt := 51) hx hb dX7_code_31 (by decide) ?_
      exact W.iret hx hb hr (fun t ht hW => ⟨by rw [some_of h], ht⟩) (fun _ h => by cases h) dX7_code_51
    · have h := zz_neg c_22 h
      refine lv_iload_n hx hb dX7_code_25 rfl (lv_at hl 3 rfl) ?_
      refine lv_iload_n hx hb dX7_code_26 rfl (lv_at hl 0 rfl) ?_
      refine lv_icmp_lt (tgt := 34) hx hb dX7_code_27 (by decide) (fun c_27 => ?_) (fun c_27 => ?_)
      · have h := zz_pos c_27 h
        refine lv_aload_n hx hb dX7_code_34 rfl (lv_at hl 1 rfl) ?_
        refine mG_12 C in_7 hP k_47 dX7_code_35 ?_
        refine lv_iload_n hx hb dX7_code_38 rfl (lv_at hl 2 rfl) ?_
        obtain ⟨b_39, h⟩ := chk_of h
        refine mL_12 C hP b_39 dX7_code_39 ?_
        refine lv_iconst (v := (3 : Int32)) hx hb dX7_code_40 (by decide) ?_
        refine lv_iload_n hx hb dX7_code_41 rfl (lv_at hl 0 rfl) ?_
        refine lv_iconst (v := (1 : Int32)) hx hb dX7_code_42 (by decide) ?_
        refine lv_isub hx hb dX7_code_43 ?_
        refine lv_iload_n hx hb dX7_code_44 rfl (lv_at hl 3 rfl) ?_
        refine lv_isub hx hb dX7_code_45 ?_
        refine lv_imul hx hb dX7_code_46 ?_
        refine lv_ishr hx hb dX7_code_47 ?_
        refine lv_bipush (v := (7 : Int32)) hx hb dX7_code_48 (by decide) ?_
        refine lv_iand hx hb dX7_code_50 ?_
        exact W.iret hx hb hr (fun t ht hW => ⟨by rw [some_of h], ht⟩) (fun _ h => by cases h) dX7_code_51
      · have h := zz_neg c_27 h
        refine lv_iconst (v := (-1 : Int32)) hx hb dX7_code_30 (by decide) ?_
        refine lv_goto (tgt := 51) hx hb dX7_code_31 (by decide) ?_
        exact W.iret hx hb hr (fun t ht hW => ⟨by rw [some_of h], ht⟩) (fun _ h => by cases h) dX7_code_51
  · have h := zz_pos c_5 h
    refine lv_iconst (v := (-1 : Int32)) hx hb dX7_code_8 (by decide) ?_
    exact W.iret hx hb hr (fun t ht hW => ⟨by rw [some_of h], ht⟩) (fun _ h => by cases h) dX7_code_9
def fM_isWholePlan (N : Nat) (σ : MSt) (x1 : Int32) : Option (Int32) := chk x1 60 ((fM_all N σ).bind fun r_7 => (if (σ.2.2.1 13 x1.toNatClampNeg) = r_7 then some (1 : Int32) else some (0 : Int32)))
set_option maxRecDepth 100000 in
set_option maxHeartbeats 4000000 in
theorem cM_isWholePlan {l : Launch} {D : va_G} {κ : Nat → ClassId} {ρ : Nat → Nat} {N : Nat} {σ : MSt} {x1 : Int32} {r : Int32} (h : fM_isWholePlan N σ x1 = some r) : Met l yX7_isWholePlan wsX7_isWholePlan ({ frames := 1, cells := 0, slots := 0, locals := 20 } : Room) (va_Pc [.ref (ρ 40), .int x1] (PR D κ ρ σ)) (PU (some (.int r))) 0 0 (fun _ => False) := by
  refine mMetR (ret := (some .boolean)) (by decide) rfl rfl (Nat.le_of_ble_eq_true rfl) ?_
  intro p e s m below meth c ls C hr hlk hP hl
  have hl : lv_has ls 2 [(0, .ref (ρ 40)), (1, .int x1)] := hl
  unfold fM_isWholePlan at h
  have hx := C.1.1
  have hb := C.1.2.1
  have hts := C.1.2.2.2.2
  have hown := C.1.2.2.2.1
  have k_50 := hts (.fieldLink RX7 50 "PlanCabinetModel" "planSet" "[I") (by decide +kernel)
  have in_7 : ∀ w ∈ wsX70, w ∈ wsX7_isWholePlan := by decide +kernel
  refine lv_aload_n hx hb dX7_isWholePlan_0 rfl (lv_at hl 0 rfl) ?_
  refine mG_13 C in_7 hP k_50 dX7_isWholePlan_1 ?_
  refine lv_iload_n hx hb dX7_isWholePlan_4 rfl (lv_at hl 1 rfl) ?_
  obtain ⟨b_5, h⟩ := chk_of h
  refine mL_13 C hP b_5 dX7_isWholePlan_5 ?_
  refine lv_aload_n hx hb dX7_isWholePlan_6 rfl (lv_at hl 0 rfl) ?_
  obtain ⟨r_7, e_7, h⟩ := bnd_of h
  refine callP (W.runV (As := []) C.1 (cM_all e_7) (cwV 0 hts gX7_isWholePlan_X7_all rfl rfl rfl (by decide +kernel) ⟨by decide, by decide⟩) (mPreR C.2 hP _) rfl rfl hl.1 rfl (lv_room (Nat.le_of_ble_eq_true rfl)) dX7_isWholePlan_7 ⟨Nat.zero_le _, Nat.zero_le _⟩) ?_
  refine lv_icmp_ne (tgt := 17) hx hb dX7_isWholePlan_10 (by decide) (fun c_10 => ?_) (fun c_10 => ?_)
  · have h := zz_neg c_10 h
    refine lv_iconst (v := (0 : Int32)) hx hb dX7_isWholePlan_17 (by decide) ?_
    exact W.zret (ty := .boolean) hx hb hr (by decide +kernel) (fun t ht hW => ⟨by rw [some_of h], ht⟩) (fun _ h => by cases h) dX7_isWholePlan_18
  · have h := zz_pos c_10 h
    refine lv_iconst (v := (1 : Int32)) hx hb dX7_isWholePlan_13 (by decide) ?_
    refine lv_goto (tgt := 18) hx hb dX7_isWholePlan_14 (by decide) ?_
    exact W.zret (ty := .boolean) hx hb hr (by decide +kernel) (fun t ht hW => ⟨by rw [some_of h], ht⟩) (fun _ h => by cases h) dX7_isWholePlan_18
def fM_about (N : Nat) (σ : MSt) (x1 : Int32) (x2 : Int32) : Option (Int32 × MSt) := (fM_isPlan N σ x1).bind fun r_2 => (if r_2 = 0 then some ((-1 : Int32), σ) else (if x2 = (0 : Int32) then chk x1 60 (some ((σ.2.2.1 13 x1.toNatClampNeg), σ)) else (if x2 = (1 : Int32) then chk x1 60 ((fM_bits N σ (σ.2.2.1 13 x1.toNatClampNeg)).bind fun r_54 => some ((r_54 - (1 : Int32)), σ)) else (if x2 = (2 : Int32) then (if 0 ≤ (σ.1 2) then (fM_list N σ).bind fun r_70 => chk x1 60 (chk x1 60 ((fM_find N r_70 (r_70.2.2.1 13 x1.toNatClampNeg) (r_70.2.2.1 12 x1.toNatClampNeg)).bind fun r_86 => chk r_86 5000 ((if (r_70.2.2.1 19 r_86.toNatClampNeg) = (2 : Int32) then chk r_86 5000 (chk x1 60 (chk r_86 5000 ((fM_isSortedSo N r_70 (r_70.2.2.1 18 r_86.toNatClampNeg) ((r_70.2.2.1 13 x1.toNatClampNeg) &&& ((r_70.2.2.1 18 r_86.toNatClampNeg) ^^^ (-1 : Int32)))).bind fun r_122 => (if r_122 = 0 then some ((0 : Int32), r_70) else some ((1 : Int32), r_70))))) else some ((0 : Int32), r_70))))) else some ((0 : Int32), σ)) else (if x2 = (3 : Int32) then (fM_isWholePlan N σ x1).bind fun r_136 => (if r_136 = 0 then some ((0 : Int32), σ) else some ((1 : Int32), σ)) else some ((-1 : Int32), σ))))))
set_option maxRecDepth 100000 in
set_option maxHeartbeats 4000000 in
theorem cM_about {l : Launch} {D : va_G} {κ : Nat → ClassId} {ρ : Nat → Nat} {sz : Nat} {N : Nat} {σ : MSt} {x1 : Int32} {x2 : Int32} {q : Int32 × MSt} (h : fM_about N σ x1 x2 = some q) : Met l yX7_about wsX7_about ({ frames := 5, cells := 0, slots := 0, locals := 117 } : Room) (va_Pc [.ref (ρ 40), .int x1, .int x2] (PM D κ ρ sz σ)) (QM D κ ρ sz q.2 (some (.int q.1))) 0 0 (AM ρ sz) := by
  refine mMetM (ret := (some .int)) (by decide) rfl rfl (Nat.le_of_ble_eq_true rfl) ?_
  intro p e s m below meth c ls C hr hlk hD hP hl
  have hS : va_S (AM ρ s.heap.size) s.heap s.heap [] := va_S.rf
  have hl : lv_has ls 4 [(0, .ref (ρ 40)), (1, .int x1), (2, .int x2)] := hl
  unfold fM_about at h
  have hx := C.1.1
  have hb := C.1.2.1
  have hts := C.1.2.2.2.2
  have hown := C.1.2.2.2.1
  have k_16 := hts (.fieldLink RX7 16 "PlanCabinetModel" "orderTable" "I") (by decide +kernel)
  have k_47 := hts (.fieldLink RX7 47 "PlanCabinetModel" "planCode" "[I") (by decide +kernel)
  have k_50 := hts (.fieldLink RX7 50 "PlanCabinetModel" "planSet" "[I") (by decide +kernel)
  have k_66 := hts (.fieldLink RX7 66 "PlanCabinetModel" "leftSet" "[I") (by decide +kernel)
  have k_69 := hts (.fieldLink RX7 69 "PlanCabinetModel" "kindOf" "[I") (by decide +kernel)
  have in_7 : ∀ w ∈ wsX70, w ∈ wsX7_about := by decide +kernel
  refine lv_aload_n hx hb dX7_about_0 rfl (lv_at hl 0 rfl) ?_
  refine lv_iload_n hx hb dX7_about_1 rfl (lv_at hl 1 rfl) ?_
  obtain ⟨r_2, e_2, h⟩ := bnd_of h
  refine callP (W.runV (As := [.int x1]) C.1 (cM_isPlan e_2) (cwV 1 hts gX7_about_X7_isPlan rfl rfl rfl (by decide +kernel) ⟨by decide, by decide⟩) (mPreR C.2 hP _) rfl rfl hl.1 rfl (lv_room (Nat.le_of_ble_eq_true rfl)) dX7_about_2 ⟨Nat.zero_le _, Nat.zero_le _⟩) ?_
  refine lv_if_ne (tgt := 10) hx hb dX7_about_5 (by decide) (fun c_5 => ?_) (fun c_5 => ?_)
  · have h := zz_neg c_5 h
    refine lv_iload_n hx hb dX7_about_10 rfl (lv_at hl 2 rfl) ?_
    by_cases c_11_0 : x2 = (0 : Int32)
    · have h := zz_pos c_11_0 h
      refine lv_tableIn (tgt := 40) (off := 29) hx hb dX7_about_11 (by rw [c_11_0]; decide) (by rw [c_11_0]; decide) (by rw [c_11_0]; rfl) (by decide) ?_
      refine lv_aload_n hx hb dX7_about_40 rfl (lv_at hl 0 rfl) ?_
      refine mG_13 C in_7 hP k_50 dX7_about_41 ?_
      refine lv_iload_n hx hb dX7_about_44 rfl (lv_at hl 1 rfl) ?_
      obtain ⟨b_45, h⟩ := chk_of h
      refine mL_13 C hP b_45 dX7_about_45 ?_
      exact W.iret hx hb hr (fun t ht hW => ⟨by rw [← some_of h], by rw [ht, ← some_of h]; exact hP, hS.F ht⟩) hS.2.2 dX7_about_46
    have h := zz_neg c_11_0 h
    by_cases c_11_1 : x2 = (1 : Int32)
    · have h := zz_pos c_11_1 h
      refine lv_tableIn (tgt := 47) (off := 36) hx hb dX7_about_11 (by rw [c_11_1]; decide) (by rw [c_11_1]; decide) (by rw [c_11_1]; rfl) (by decide) ?_
      refine lv_aload_n hx hb dX7_about_47 rfl (lv_at hl 0 rfl) ?_
      refine lv_aload_n hx hb dX7_about_48 rfl (lv_at hl 0 rfl) ?_
      refine mG_13 C in_7 hP k_50 dX7_about_49 ?_
      refine lv_iload_n hx hb dX7_about_52 rfl (lv_at hl 1 rfl) ?_
      obtain ⟨b_53, h⟩ := chk_of h
      refine mL_13 C hP b_53 dX7_about_53 ?_
      obtain ⟨r_54, e_54, h⟩ := bnd_of h
      refine callP (W.runV (As := [.int (σ.2.2.1 13 x1.toNatClampNeg)]) C.1 (cM_bits e_54) (cwV 1 hts gX7_about_X7_bits rfl rfl rfl (by decide +kernel) ⟨by decide, by decide⟩) (mPreR C.2 hP _) rfl rfl hl.1 rfl (lv_room (Nat.le_of_ble_eq_true rfl)) dX7_about_54 ⟨Nat.zero_le _, Nat.zero_le _⟩) ?_
      refine lv_iconst (v := (1 : Int32)) hx hb dX7_about_57 (by decide) ?_
      refine lv_isub hx hb dX7_about_58 ?_
      exact W.iret hx hb hr (fun t ht hW => ⟨by rw [← some_of h], by rw [ht, ← some_of h]; exact hP, hS.F ht⟩) hS.2.2 dX7_about_59
    have h := zz_neg c_11_1 h
    by_cases c_11_2 : x2 = (2 : Int32)
    · have h := zz_pos c_11_2 h
      refine lv_tableIn (tgt := 60) (off := 49) hx hb dX7_about_11 (by rw [c_11_2]; decide) (by rw [c_11_2]; decide) (by rw [c_11_2]; rfl) (by decide) ?_
      refine lv_aload_n hx hb dX7_about_60 rfl (lv_at hl 0 rfl) ?_
      refine mG_2 C in_7 hP k_16 dX7_about_61 ?_
      refine lv_if_ge (tgt := 69) hx hb dX7_about_64 (by decide) (fun c_64 => ?_) (fun c_64 => ?_)
      · have h := zz_pos c_64 h
        refine lv_aload_n hx hb dX7_about_69 rfl (lv_at hl 0 rfl) ?_
        obtain ⟨r_70, e_70, h⟩ := bnd_of h
        refine mCall (va_runV (As := []) C.1 (cM_list e_70) (cwV 0 hts gX7_about_X7_list rfl rfl rfl (by decide +kernel) ⟨by decide, by decide⟩) (mPreM C.2 hP hD _) rfl rfl hl.1 rfl (lv_room (Nat.le_of_ble_eq_true rfl)) dX7_about_70 ⟨Nat.zero_le _, Nat.zero_le _⟩) hS hD (fun _ h => Or.inr h) (fun H locs hP hS => ?_)
        refine lv_aload_n hx hb dX7_about_73 rfl (lv_at hl 0 rfl) ?_
        refine lv_aload_n hx hb dX7_about_74 rfl (lv_at hl 0 rfl) ?_
        refine mG_13 C in_7 hP k_50 dX7_about_75 ?_
        refine lv_iload_n hx hb dX7_about_78 rfl (lv_at hl 1 rfl) ?_
        obtain ⟨b_79, h⟩ := chk_of h
        refine mL_13 C hP b_79 dX7_about_79 ?_
        refine lv_aload_n hx hb dX7_about_80 rfl (lv_at hl 0 rfl) ?_
        refine mG_12 C in_7 hP k_47 dX7_about_81 ?_
        refine lv_iload_n hx hb dX7_about_84 rfl (lv_at hl 1 rfl) ?_
        obtain ⟨b_85, h⟩ := chk_of h
        refine mL_12 C hP b_85 dX7_about_85 ?_
        obtain ⟨r_86, e_86, h⟩ := bnd_of h
        refine callP (W.runV (As := [.int (r_70.2.2.1 13 x1.toNatClampNeg), .int (r_70.2.2.1 12 x1.toNatClampNeg)]) C.1 (cM_find e_86) (cwV 2 hts gX7_about_X7_find rfl rfl rfl (by decide +kernel) ⟨by decide, by decide⟩) (mPreR C.2 hP _) rfl rfl hl.1 rfl (lv_room (Nat.le_of_ble_eq_true rfl)) dX7_about_86 ⟨Nat.zero_le _, Nat.zero_le _⟩) ?_
        refine lv_istore_n (lv' := [(3, .int r_86), (0, .ref (ρ 40)), (1, .int x1), (2, .int x2)]) hx hb dX7_about_89 rfl hl (by decide) rfl (fun ls hl => ?_)
        refine lv_aload_n hx hb dX7_about_90 rfl (lv_at hl 1 rfl) ?_
        refine mG_19 C in_7 hP k_69 dX7_about_91 ?_
        refine lv_iload_n hx hb dX7_about_94 rfl (lv_at hl 0 rfl) ?_
        obtain ⟨b_95, h⟩ := chk_of h
        refine mL_19 C hP b_95 dX7_about_95 ?_
        refine lv_iconst (v := (2 : Int32)) hx hb dX7_about_96 (by decide) ?_
        refine lv_icmp_ne (tgt := 132) hx hb dX7_about_97 (by decide) (fun c_97 => ?_) (fun c_97 => ?_)
        · have h := zz_neg c_97 h
          refine lv_iconst (v := (0 : Int32)) hx hb dX7_about_132 (by decide) ?_
          exact W.iret hx hb hr (fun t ht hW => ⟨by rw [← some_of h], by rw [ht, ← some_of h]; exact hP, hS.F ht⟩) hS.2.2 dX7_about_133
        · have h := zz_pos c_97 h
          refine lv_aload_n hx hb dX7_about_100 rfl (lv_at hl 1 rfl) ?_
          refine lv_aload_n hx hb dX7_about_101 rfl (lv_at hl 1 rfl) ?_
          refine mG_18 C in_7 hP k_66 dX7_about_102 ?_
          refine lv_iload_n hx hb dX7_about_105 rfl (lv_at hl 0 rfl) ?_
          obtain ⟨b_106, h⟩ := chk_of h
          refine mL_18 C hP b_106 dX7_about_106 ?_
          refine lv_aload_n hx hb dX7_about_107 rfl (lv_at hl 1 rfl) ?_
          refine mG_13 C in_7 hP k_50 dX7_about_108 ?_
          refine lv_iload_n hx hb dX7_about_111 rfl (lv_at hl 2 rfl) ?_
          obtain ⟨b_112, h⟩ := chk_of h
          refine mL_13 C hP b_112 dX7_about_112 ?_
          refine lv_aload_n hx hb dX7_about_113 rfl (lv_at hl 1 rfl) ?_
          refine mG_18 C in_7 hP k_66 dX7_about_114 ?_
          refine lv_iload_n hx hb dX7_about_117 rfl (lv_at hl 0 rfl) ?_
          obtain ⟨b_118, h⟩ := chk_of h
          refine mL_18 C hP b_118 dX7_about_118 ?_
          refine lv_iconst (v := (-1 : Int32)) hx hb dX7_about_119 (by decide) ?_
          refine lv_ixor hx hb dX7_about_120 ?_
          refine lv_iand hx hb dX7_about_121 ?_
          obtain ⟨r_122, e_122, h⟩ := bnd_of h
          refine callP (W.runV (As := [.int (r_70.2.2.1 18 r_86.toNatClampNeg), .int ((r_70.2.2.1 13 x1.toNatClampNeg) &&& ((r_70.2.2.1 18 r_86.toNatClampNeg) ^^^ (-1 : Int32)))]) C.1 (cM_isSortedSo e_122) (cwV 2 hts gX7_about_X7_isSortedSo rfl rfl rfl (by decide +kernel) ⟨by decide, by decide⟩) (mPreR C.2 hP _) rfl rfl hl.1 rfl (lv_room (Nat.le_of_ble_eq_true rfl)) dX7_about_122 ⟨Nat.zero_le _, Nat.zero_le _⟩) ?_
          refine lv_if_eq (tgt := 132) hx hb dX7_about_125 (by decide) (fun c_125 => ?_) (fun c_125 => ?_)
          · have h := zz_pos c_125 h
            refine lv_iconst (v := (0 : Int32)) hx hb dX7_about_132 (by decide) ?_
            exact W.iret hx hb hr (fun t ht hW => ⟨by rw [← some_of h], by rw [ht, ← some_of h]; exact hP, hS.F ht⟩) hS.2.2 dX7_about_133
          · have h := zz_neg c_125 h
            refine lv_iconst (v := (1 : Int32)) hx hb dX7_about_128 (by decide) ?_
            refine lv_goto (tgt := 133) hx hb dX7_about_129 (by decide) ?_
            exact W.iret hx hb hr (fun t ht hW => ⟨by rw [← some_of h], by rw [ht, ← some_of h]; exact hP, hS.F ht⟩) hS.2.2 dX7_about_133
      · have h := zz_neg c_64 h
        refine lv_iconst (v := (0 : Int32)) hx hb dX7_about_67 (by decide) ?_
        exact W.iret hx hb hr (fun t ht hW => ⟨by rw [← some_of h], by rw [ht, ← some_of h]; exact hP, hS.F ht⟩) hS.2.2 dX7_about_68
    have h := zz_neg c_11_2 h
    by_cases c_11_3 : x2 = (3 : Int32)
    · have h := zz_pos c_11_3 h
      refine lv_tableIn (tgt := 134) (off := 123) hx hb dX7_about_11 (by rw [c_11_3]; decide) (by rw [c_11_3]; decide) (by rw [c_11_3]; rfl) (by decide) ?_
      refine lv_aload_n hx hb dX7_about_134 rfl (lv_at hl 0 rfl) ?_
      refine lv_iload_n hx hb dX7_about_135 rfl (lv_at hl 1 rfl) ?_
      obtain ⟨r_136, e_136, h⟩ := bnd_of h
      refine callP (W.runV (As := [.int x1]) C.1 (cM_isWholePlan e_136) (cwV 1 hts gX7_about_X7_isWholePlan rfl rfl rfl (by decide +kernel) ⟨by decide, by decide⟩) (mPreR C.2 hP _) rfl rfl hl.1 rfl (lv_room (Nat.le_of_ble_eq_true rfl)) dX7_about_136 ⟨Nat.zero_le _, Nat.zero_le _⟩) ?_
      refine lv_if_eq (tgt := 146) hx hb dX7_about_139 (by decide) (fun c_139 => ?_) (fun c_139 => ?_)
      · have h := zz_pos c_139 h
        refine lv_iconst (v := (0 : Int32)) hx hb dX7_about_146 (by decide) ?_
        exact W.iret hx hb hr (fun t ht hW => ⟨by rw [← some_of h], by rw [ht, ← some_of h]; exact hP, hS.F ht⟩) hS.2.2 dX7_about_147
      · have h := zz_neg c_139 h
        refine lv_iconst (v := (1 : Int32)) hx hb dX7_about_142 (by decide) ?_
        refine lv_goto (tgt := 147) hx hb dX7_about_143 (by decide) ?_
        exact W.iret hx hb hr (fun t ht hW => ⟨by rw [← some_of h], by rw [ht, ← some_of h]; exact hP, hS.F ht⟩) hS.2.2 dX7_about_147
    have h := zz_neg c_11_3 h
    refine lv_tableOut (tgt := 148) hx hb dX7_about_11 (by have e_0 := sw_ne (n := 0) 0 (by decide) c_11_0; have e_1 := sw_ne (n := 1) 1 (by decide) c_11_1; have e_2 := sw_ne (n := 2) 2 (by decide) c_11_2; have e_3 := sw_ne (n := 3) 3 (by decide) c_11_3; omega) (by decide) ?_
    refine lv_iconst (v := (-1 : Int32)) hx hb dX7_about_148 (by decide) ?_
    exact W.iret hx hb hr (fun t ht hW => ⟨by rw [← some_of h], by rw [ht, ← some_of h]; exact hP, hS.F ht⟩) hS.2.2 dX7_about_149
  · have h := zz_pos c_5 h
    refine lv_iconst (v := (-1 : Int32)) hx hb dX7_about_8 (by decide) ?_
    exact W.iret hx hb hr (fun t ht hW => ⟨by rw [← some_of h], by rw [ht, ← some_of h]; exact hP, hS.F ht⟩) hS.2.2 dX7_about_9
