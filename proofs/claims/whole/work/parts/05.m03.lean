/-! the reference: near, least, worstOf, worst, blind, isEnough, cover, spot, readAll, of, fits -/
def fM_near (N : Nat) (σ : MSt) (x1 : Int32) (x2 : Int32) (x3 : Int32) : Option (Int32 × MSt) := (fM_isPlan N σ x1).bind fun r_2 => (if r_2 = 0 then some ((-1 : Int32), σ) else (fM_isPoint N σ x2).bind fun r_10 => (if r_10 = 0 then some ((-1 : Int32), σ) else (if x3 < 0 then some ((-2 : Int32), σ) else (if x3 ≤ (10000 : Int32) then (fM_isWholePlan N σ x1).bind fun r_34 => (if r_34 = 0 then some ((-3 : Int32), σ) else (fM_list N σ).bind fun r_44 => (fM_all N r_44).bind fun r_50 => chk x1 60 ((fM_find N r_44 r_50 (r_44.2.2.1 12 x1.toNatClampNeg)).bind fun r_59 => (fM_isNear N r_44 r_59 x2 x3).bind fun r_64 => (if r_64 = 0 then some ((0 : Int32), r_44) else some ((1 : Int32), r_44)))) else some ((-2 : Int32), σ)))))
set_option maxRecDepth 100000 in
set_option maxHeartbeats 4000000 in
theorem cM_near {l : Launch} {D : va_G} {κ : Nat → ClassId} {ρ : Nat → Nat} {sz : Nat} {N : Nat} {σ : MSt} {x1 : Int32} {x2 : Int32} {x3 : Int32} {q : Int32 × MSt} (h : fM_near N σ x1 x2 x3 = some q) : Met l yX7_near wsX7_near ({ frames := 5, cells := 0, slots := 0, locals := 117 } : Room) (va_Pc [.ref (ρ 40), .int x1, .int x2, .int x3] (PM D κ ρ sz σ)) (QM D κ ρ sz q.2 (some (.int q.1))) 0 0 (AM ρ sz) := by
  refine mMetM (ret := (some .int)) (by decide) rfl rfl (Nat.le_of_ble_eq_true rfl) ?_
  intro p e s m below meth c ls C hr hlk hD hP hl
  have hS : va_S (AM ρ s.heap.size) s.heap s.heap [] := va_S.rf
  have hl : lv_has ls 4 [(0, .ref (ρ 40)), (1, .int x1), (2, .int x2), (3, .int x3)] := hl
  unfold fM_near at h
  have hx := C.1.1
  have hb := C.1.2.1
  have hts := C.1.2.2.2.2
  have hown := C.1.2.2.2.1
  have k_47 := hts (.fieldLink RX7 47 "PlanCabinetModel" "planCode" "[I") (by decide +kernel)
  have in_7 : ∀ w ∈ wsX70, w ∈ wsX7_near := by decide +kernel
  refine lv_aload_n hx hb dX7_near_0 rfl (lv_at hl 0 rfl) ?_
  refine lv_iload_n hx hb dX7_near_1 rfl (lv_at hl 1 rfl) ?_
  obtain ⟨r_2, e_2, h⟩ := bnd_of h
  refine callP (W.runV (As := [.int x1]) C.1 (cM_isPlan e_2) (cwV 1 hts gX7_near_X7_isPlan rfl rfl rfl (by decide +kernel) ⟨by decide, by decide⟩) (mPreR C.2 hP _) rfl rfl hl.1 rfl (lv_room (Nat.le_of_ble_eq_true rfl)) dX7_near_2 ⟨Nat.zero_le _, Nat.zero_le _⟩) ?_
  refine lv_if_eq (tgt := 16) hx hb dX7_near_5 (by decide) (fun c_5 => ?_) (fun c_5 => ?_)
  · have h := zz_pos c_5 h
    refine lv_iconst (v := (-1 : Int32)) hx hb dX7_near_16 (by decide) ?_
    exact W.iret hx hb hr (fun t ht hW => ⟨by rw [← some_of h], by rw [ht, ← some_of h]; exact hP, hS.F ht⟩) hS.2.2 dX7_near_17
  · have h := zz_neg c_5 h
    refine lv_aload_n hx hb dX7_near_8 rfl (lv_at hl 0 rfl) ?_
    refine lv_iload_n hx hb dX7_near_9 rfl (lv_at hl 2 rfl) ?_
    obtain ⟨r_10, e_10, h⟩ := bnd_of h
    refine callP (W.runV (As := [.int x2]) C.1 (cM_isPoint e_10) (cwV 1 hts gX7_near_X7_isPoint rfl rfl rfl (by decide +kernel) ⟨by decide, by decide⟩) (mPreR C.2 hP _) rfl rfl hl.1 rfl (lv_room (Nat.le_of_ble_eq_true rfl)) dX7_near_10 ⟨Nat.zero_le _, Nat.zero_le _⟩) ?_
    refine lv_if_ne (tgt := 18) hx hb dX7_near_13 (by decide) (fun c_13 => ?_) (fun c_13 => ?_)
    · have h := zz_neg c_13 h
      refine lv_iload_n hx hb dX7_near_18 rfl (lv_at hl 3 rfl) ?_
      refine lv_if_lt (tgt := 29) hx hb dX7_near_19 (by decide) (fun c_19 => ?_) (fun c_19 => ?_)
      · have h := zz_pos c_19 h
        refine lv_bipush (v := (-2 : Int32)) hx hb dX7_near_29 (by decide) ?_
        exact W.iret hx hb hr (fun t ht hW => ⟨by rw [← some_of h], by rw [ht, ← some_of h]; exact hP, hS.F ht⟩) hS.2.2 dX7_near_31
      · have h := zz_neg c_19 h
        refine lv_iload_n hx hb dX7_near_22 rfl (lv_at hl 3 rfl) ?_
        refine lv_sipush (v := (10000 : Int32)) hx hb dX7_near_23 (by decide) ?_
        refine lv_icmp_le (tgt := 32) hx hb dX7_near_26 (by decide) (fun c_26 => ?_) (fun c_26 => ?_)
        · have h := zz_pos c_26 h
          refine lv_aload_n hx hb dX7_near_32 rfl (lv_at hl 0 rfl) ?_
          refine lv_iload_n hx hb dX7_near_33 rfl (lv_at hl 1 rfl) ?_
          obtain ⟨r_34, e_34, h⟩ := bnd_of h
          refine callP (W.runV (As := [.int x1]) C.1 (cM_isWholePlan e_34) (cwV 1 hts gX7_near_X7_isWholePlan rfl rfl rfl (by decide +kernel) ⟨by decide, by decide⟩) (mPreR C.2 hP _) rfl rfl hl.1 rfl (lv_room (Nat.le_of_ble_eq_true rfl)) dX7_near_34 ⟨Nat.zero_le _, Nat.zero_le _⟩) ?_
          refine lv_if_ne (tgt := 43) hx hb dX7_near_37 (by decide) (fun c_37 => ?_) (fun c_37 => ?_)
          · have h := zz_neg c_37 h
            refine lv_aload_n hx hb dX7_near_43 rfl (lv_at hl 0 rfl) ?_
            obtain ⟨r_44, e_44, h⟩ := bnd_of h
            refine mCall (va_runV (As := []) C.1 (cM_list e_44) (cwV 0 hts gX7_near_X7_list rfl rfl rfl (by decide +kernel) ⟨by decide, by decide⟩) (mPreM C.2 hP hD _) rfl rfl hl.1 rfl (lv_room (Nat.le_of_ble_eq_true rfl)) dX7_near_44 ⟨Nat.zero_le _, Nat.zero_le _⟩) hS hD (fun _ h => Or.inr h) (fun H locs hP hS => ?_)
            refine lv_aload_n hx hb dX7_near_47 rfl (lv_at hl 0 rfl) ?_
            refine lv_aload_n hx hb dX7_near_48 rfl (lv_at hl 0 rfl) ?_
            refine lv_aload_n hx hb dX7_near_49 rfl (lv_at hl 0 rfl) ?_
            obtain ⟨r_50, e_50, h⟩ := bnd_of h
            refine callP (W.runV (As := []) C.1 (cM_all e_50) (cwV 0 hts gX7_near_X7_all rfl rfl rfl (by decide +kernel) ⟨by decide, by decide⟩) (mPreR C.2 hP _) rfl rfl hl.1 rfl (lv_room (Nat.le_of_ble_eq_true rfl)) dX7_near_50 ⟨Nat.zero_le _, Nat.zero_le _⟩) ?_
            refine lv_aload_n hx hb dX7_near_53 rfl (lv_at hl 0 rfl) ?_
            refine mG_12 C in_7 hP k_47 dX7_near_54 ?_
            refine lv_iload_n hx hb dX7_near_57 rfl (lv_at hl 1 rfl) ?_
            obtain ⟨b_58, h⟩ := chk_of h
            refine mL_12 C hP b_58 dX7_near_58 ?_
            obtain ⟨r_59, e_59, h⟩ := bnd_of h
            refine callP (W.runV (As := [.int r_50, .int (r_44.2.2.1 12 x1.toNatClampNeg)]) C.1 (cM_find e_59) (cwV 2 hts gX7_near_X7_find rfl rfl rfl (by decide +kernel) ⟨by decide, by decide⟩) (mPreR C.2 hP _) rfl rfl hl.1 rfl (lv_room (Nat.le_of_ble_eq_true rfl)) dX7_near_59 ⟨Nat.zero_le _, Nat.zero_le _⟩) ?_
            refine lv_iload_n hx hb dX7_near_62 rfl (lv_at hl 2 rfl) ?_
            refine lv_iload_n hx hb dX7_near_63 rfl (lv_at hl 3 rfl) ?_
            obtain ⟨r_64, e_64, h⟩ := bnd_of h
            refine callP (W.runV (As := [.int r_59, .int x2, .int x3]) C.1 (cM_isNear e_64) (cwV 3 hts gX7_near_X7_isNear rfl rfl rfl (by decide +kernel) ⟨by decide, by decide⟩) (mPreR C.2 hP _) rfl rfl hl.1 rfl (lv_room (Nat.le_of_ble_eq_true rfl)) dX7_near_64 ⟨Nat.zero_le _, Nat.zero_le _⟩) ?_
            refine lv_if_eq (tgt := 74) hx hb dX7_near_67 (by decide) (fun c_67 => ?_) (fun c_67 => ?_)
            · have h := zz_pos c_67 h
              refine lv_iconst (v := (0 : Int32)) hx hb dX7_near_74 (by decide) ?_
              exact W.iret hx hb hr (fun t ht hW => ⟨by rw [← some_of h], by rw [ht, ← some_of h]; exact hP, hS.F ht⟩) hS.2.2 dX7_near_75
            · have h := zz_neg c_67 h
              refine lv_iconst (v := (1 : Int32)) hx hb dX7_near_70 (by decide) ?_
              refine lv_goto (tgt := 75) hx hb dX7_near_71 (by decide) ?_
              exact W.iret hx hb hr (fun t ht hW => ⟨by rw [← some_of h], by rw [ht, ← some_of h]; exact hP, hS.F ht⟩) hS.2.2 dX7_near_75
          · have h := zz_pos c_37 h
            refine lv_bipush (v := (-3 : Int32)) hx hb dX7_near_40 (by decide) ?_
            exact W.iret hx hb hr (fun t ht hW => ⟨by rw [← some_of h], by rw [ht, ← some_of h]; exact hP, hS.F ht⟩) hS.2.2 dX7_near_42
        · have h := zz_neg c_26 h
          refine lv_bipush (v := (-2 : Int32)) hx hb dX7_near_29 (by decide) ?_
          exact W.iret hx hb hr (fun t ht hW => ⟨by rw [← some_of h], by rw [ht, ← some_of h]; exact hP, hS.F ht⟩) hS.2.2 dX7_near_31
    · have h := zz_pos c_13 h
      refine lv_iconst (v := (-1 : Int32)) hx hb dX7_near_16 (by decide) ?_
      exact W.iret hx hb hr (fun t ht hW => ⟨by rw [← some_of h], by rw [ht, ← some_of h]; exact hP, hS.F ht⟩) hS.2.2 dX7_near_17
def fM_least_L2 (N : Nat) : Nat → MSt → Int32 → Option (MSt)
  | 0, _, _ => none
  | n + 1, σ, x1 => (if (32 : Int32) < x1 then some σ else (fM_bestAt N σ x1).bind fun r_16 => (fM_at N σ r_16 x1).bind fun r_20 => chk x1 33 (fM_least_L2 N n (sB σ 27 x1.toNatClampNeg r_20) (x1 + 1)))
def fM_least (N : Nat) (σ : MSt) : Option (MSt) := fM_least_L2 N N σ (0 : Int32)
set_option maxRecDepth 100000 in
set_option maxHeartbeats 4000000 in
theorem wM_least_L2 {p : Program} {l : Launch} {e : Env} {s : State} {m : MethodId} {args : Array Value} {below : List Frame} {meth : Method} {c : Code} {D : va_G} {κ : Nat → ClassId} {ρ : Nat → Nat} (C : MC p m c cX7_least 2 s args wsX7_least D κ) (hr : meth.sig.returnType = none) (hlk : meth.locks = false) (hD : DM (AM ρ s.heap.size) ρ) {N : Nat} {q : MSt} : ∀ (n : Nat) (σ : MSt) (x1 : Int32) (H : Heap) (locs : List Loc) (ls : Array Slot), fM_least_L2 N n σ x1 = some q → va_P D vwCl (cellsM κ ρ σ) H → va_S (AM ρ s.heap.size) s.heap H locs → lv_has ls 2 [(0, .ref (ρ 40)), (1, .int x1)] → W p l e ({ frames := 2, cells := 0, slots := 0, locals := 45 } : Room) s m args below meth c H locs 0 0 (MQ below (QM D κ ρ s.heap.size q none) args s 0 0 (AM ρ s.heap.size)) (F0 m 2 ls []) := by
  have hx := C.1.1
  have hb := C.1.2.1
  have hts := C.1.2.2.2.2
  have hown := C.1.2.2.2.1
  have k_94 := hts (.fieldLink RX7 94 "PlanCabinetModel" "leastAt" "[J") (by decide +kernel)
  have in_7 : ∀ w ∈ wsX70, w ∈ wsX7_least := by decide +kernel
  intro n
  induction n with
  | zero =>
    intro σ x1 H locs ls h hP hS hl
    rw [fM_least_L2] at h
    cases h
  | succ n ih =>
    intro σ x1 H locs ls h hP hS hl
    rw [fM_least_L2] at h
    refine lv_iload_n hx hb dX7_least_2 rfl (lv_at hl 1 rfl) ?_
    refine lv_bipush (v := (32 : Int32)) hx hb dX7_least_3 (by decide) ?_
    refine lv_icmp_gt (tgt := 30) hx hb dX7_least_5 (by decide) (fun c_5 => ?_) (fun c_5 => ?_)
    · have h := zz_pos c_5 h
      exact W.vret hx hb hr (fun t ht hW => ⟨rfl, by rw [ht, ← some_of h]; exact hP, hS.F ht⟩) hS.2.2 dX7_least_30
    · have h := zz_neg c_5 h
      refine lv_aload_n hx hb dX7_least_8 rfl (lv_at hl 0 rfl) ?_
      refine mG_27 C in_7 hP k_94 dX7_least_9 ?_
      refine lv_iload_n hx hb dX7_least_12 rfl (lv_at hl 1 rfl) ?_
      refine lv_aload_n hx hb dX7_least_13 rfl (lv_at hl 0 rfl) ?_
      refine lv_aload_n hx hb dX7_least_14 rfl (lv_at hl 0 rfl) ?_
      refine lv_iload_n hx hb dX7_least_15 rfl (lv_at hl 1 rfl) ?_
      obtain ⟨r_16, e_16, h⟩ := bnd_of h
      refine callP (W.runV (As := [.int x1]) C.1 (cM_bestAt e_16) (cwV 1 hts gX7_least_X7_bestAt rfl rfl rfl (by decide +kernel) ⟨by decide, by decide⟩) (mPreR C.2 hP _) rfl rfl hl.1 rfl (lv_room (Nat.le_of_ble_eq_true rfl)) dX7_least_16 ⟨Nat.zero_le _, Nat.zero_le _⟩) ?_
      refine lv_iload_n hx hb dX7_least_19 rfl (lv_at hl 1 rfl) ?_
      obtain ⟨r_20, e_20, h⟩ := bnd_of h
      refine callP (W.runV (As := [.int r_16, .int x1]) C.1 (cM_at e_20) (cwV 2 hts gX7_least_X7_at rfl rfl rfl (by decide +kernel) ⟨by decide, by decide⟩) (mPreR C.2 hP _) rfl rfl hl.1 rfl (lv_room (Nat.le_of_ble_eq_true rfl)) dX7_least_20 ⟨Nat.zero_le _, Nat.zero_le _⟩) ?_
      obtain ⟨b_23, h⟩ := chk_of h
      refine mS_27 C hP hD hS b_23 dX7_least_23 (fun H locs hP hS => ?_)
      refine lv_iinc (v := (x1 + 1)) (lv' := [(1, .int (x1 + 1)), (0, .ref (ρ 40))]) hx hb dX7_least_24 hl (k := 1) rfl rfl (by decide) rfl (fun ls hl => ?_)
      refine lv_goto (tgt := 2) hx hb dX7_least_27 (by decide) ?_
      exact ih _ _ _ _ _ h hP hS (lv_sub hl [1, 0] rfl)
set_option maxRecDepth 100000 in
set_option maxHeartbeats 4000000 in
theorem cM_least {l : Launch} {D : va_G} {κ : Nat → ClassId} {ρ : Nat → Nat} {sz : Nat} {N : Nat} {σ : MSt} {q : MSt} (h : fM_least N σ = some q) : Met l yX7_least wsX7_least ({ frames := 2, cells := 0, slots := 0, locals := 45 } : Room) (va_Pc [.ref (ρ 40)] (PM D κ ρ sz σ)) (QM D κ ρ sz q none) 0 0 (AM ρ sz) := by
  refine mMetM (ret := none) (by decide) rfl rfl (Nat.le_of_ble_eq_true rfl) ?_
  intro p e s m below meth c ls C hr hlk hD hP hl
  have hS : va_S (AM ρ s.heap.size) s.heap s.heap [] := va_S.rf
  have hl : lv_has ls 2 [(0, .ref (ρ 40))] := hl
  unfold fM_least at h
  have hx := C.1.1
  have hb := C.1.2.1
  have hts := C.1.2.2.2.2
  have hown := C.1.2.2.2.1
  refine lv_iconst (v := (0 : Int32)) hx hb dX7_least_0 (by decide) ?_
  refine lv_istore_n (lv' := [(1, .int (0 : Int32)), (0, .ref (ρ 40))]) hx hb dX7_least_1 rfl hl (by decide) rfl (fun ls hl => ?_)
  exact wM_least_L2 C hr hlk hD _ _ _ _ _ _ h hP hS (lv_sub hl [1, 0] rfl)
def fM_worstOf_L4 (N : Nat) (σ : MSt) : Nat → Int32 → Int32 → Int32 → Option (Int32)
  | 0, _, _, _ => none
  | n + 1, x1, x2, x3 => (if (32 : Int32) < x3 then some x2 else (fM_at N σ x1 x3).bind fun r_13 => chk x2 33 ((fM_at N σ x1 x2).bind fun r_26 => chk x3 33 ((if (lg_cmp (r_13 * (σ.2.2.2 27 x2.toNatClampNeg)) (r_26 * (σ.2.2.2 27 x3.toNatClampNeg))) ≤ 0 then fM_worstOf_L4 N σ n x1 x2 (x3 + 1) else fM_worstOf_L4 N σ n x1 x3 (x3 + 1)))))
def fM_worstOf (N : Nat) (σ : MSt) (x1 : Int32) : Option (Int32) := fM_worstOf_L4 N σ N x1 (0 : Int32) (1 : Int32)
set_option maxRecDepth 100000 in
set_option maxHeartbeats 4000000 in
theorem wM_worstOf_L4 {p : Program} {l : Launch} {e : Env} {s : State} {m : MethodId} {args : Array Value} {below : List Frame} {meth : Method} {c : Code} {D : va_G} {κ : Nat → ClassId} {ρ : Nat → Nat} {σ : MSt} (C : MC p m c cX7_worstOf 4 s args wsX7_worstOf D κ) (hr : meth.sig.returnType = (some .int)) (hlk : meth.locks = false) (hP : va_P D vwCl (cellsM κ ρ σ) s.heap) {N : Nat} {r : Int32} : ∀ (n : Nat) (x1 : Int32) (x2 : Int32) (x3 : Int32) (ls : Array Slot), fM_worstOf_L4 N σ n x1 x2 x3 = some r → lv_has ls 4 [(0, .ref (ρ 40)), (1, .int x1), (2, .int x2), (3, .int x3)] → W p l e ({ frames := 1, cells := 0, slots := 0, locals := 22 } : Room) s m args below meth c s.heap [] 0 0 (MQ below (PU (some (.int r))) args s 0 0 (fun _ => False)) (F0 m 4 ls []) := by
  have hx := C.1.1
  have hb := C.1.2.1
  have hts := C.1.2.2.2.2
  have hown := C.1.2.2.2.1
  have k_94 := hts (.fieldLink RX7 94 "PlanCabinetModel" "leastAt" "[J") (by decide +kernel)
  have in_7 : ∀ w ∈ wsX70, w ∈ wsX7_worstOf := by decide +kernel
  intro n
  induction n with
  | zero =>
    intro x1 x2 x3 ls h hl
    rw [fM_worstOf_L4] at h
    cases h
  | succ n ih =>
    intro x1 x2 x3 ls h hl
    rw [fM_worstOf_L4] at h
    refine lv_iload_n hx hb dX7_worstOf_4 rfl (lv_at hl 3 rfl) ?_
    refine lv_bipush (v := (32 : Int32)) hx hb dX7_worstOf_5 (by decide) ?_
    refine lv_icmp_gt (tgt := 48) hx hb dX7_worstOf_7 (by decide) (fun c_7 => ?_) (fun c_7 => ?_)
    · have h := zz_pos c_7 h
      refine lv_iload_n hx hb dX7_worstOf_48 rfl (lv_at hl 2 rfl) ?_
      exact W.iret hx hb hr (fun t ht hW => ⟨by rw [some_of h], ht⟩) (fun _ h => by cases h) dX7_worstOf_49
    · have h := zz_neg c_7 h
      refine lv_aload_n hx hb dX7_worstOf_10 rfl (lv_at hl 0 rfl) ?_
      refine lv_iload_n hx hb dX7_worstOf_11 rfl (lv_at hl 1 rfl) ?_
      refine lv_iload_n hx hb dX7_worstOf_12 rfl (lv_at hl 3 rfl) ?_
      obtain ⟨r_13, e_13, h⟩ := bnd_of h
      refine callP (W.runV (As := [.int x1, .int x3]) C.1 (cM_at e_13) (cwV 2 hts gX7_worstOf_X7_at rfl rfl rfl (by decide +kernel) ⟨by decide, by decide⟩) (mPreR C.2 hP _) rfl rfl hl.1 rfl (lv_room (Nat.le_of_ble_eq_true rfl)) dX7_worstOf_13 ⟨Nat.zero_le _, Nat.zero_le _⟩) ?_
      refine lv_aload_n hx hb dX7_worstOf_16 rfl (lv_at hl 0 rfl) ?_
      refine mG_27 C in_7 hP k_94 dX7_worstOf_17 ?_
      refine lv_iload_n hx hb dX7_worstOf_20 rfl (lv_at hl 2 rfl) ?_
      obtain ⟨b_21, h⟩ := chk_of h
      refine mL_27 C hP b_21 dX7_worstOf_21 ?_
      refine lv_lmul hx hb dX7_worstOf_22 ?_
      refine lv_aload_n hx hb dX7_worstOf_23 rfl (lv_at hl 0 rfl) ?_
      refine lv_iload_n hx hb dX7_worstOf_24 rfl (lv_at hl 1 rfl) ?_
      refine lv_iload_n hx hb dX7_worstOf_25 rfl (lv_at hl 2 rfl) ?_
      obtain ⟨r_26, e_26, h⟩ := bnd_of h
      refine callP (W.runV (As := [.int x1, .int x2]) C.1 (cM_at e_26) (cwV 2 hts gX7_worstOf_X7_at rfl rfl rfl (by decide +kernel) ⟨by decide, by decide⟩) (mPreR C.2 hP _) rfl rfl hl.1 rfl (lv_room (Nat.le_of_ble_eq_true rfl)) dX7_worstOf_26 ⟨Nat.zero_le _, Nat.zero_le _⟩) ?_
      refine lv_aload_n hx hb dX7_worstOf_29 rfl (lv_at hl 0 rfl) ?_
      refine mG_27 C in_7 hP k_94 dX7_worstOf_30 ?_
      refine lv_iload_n hx hb dX7_worstOf_33 rfl (lv_at hl 3 rfl) ?_
      obtain ⟨b_34, h⟩ := chk_of h
      refine mL_27 C hP b_34 dX7_worstOf_34 ?_
      refine lv_lmul hx hb dX7_worstOf_35 ?_
      refine W.lcmp hx hb dX7_worstOf_36 ?_
      refine lv_if_le (tgt := 42) hx hb dX7_worstOf_37 (by decide) (fun c_37 => ?_) (fun c_37 => ?_)
      · have h := zz_pos c_37 h
        refine lv_iinc (v := (x3 + 1)) (lv' := [(3, .int (x3 + 1)), (0, .ref (ρ 40)), (1, .int x1), (2, .int x2)]) hx hb dX7_worstOf_42 hl (k := 3) rfl rfl (by decide) rfl (fun ls hl => ?_)
        refine lv_goto (tgt := 4) hx hb dX7_worstOf_45 (by decide) ?_
        exact ih _ _ _ _ h (lv_sub hl [1, 2, 3, 0] rfl)
      · have h := zz_neg c_37 h
        refine lv_iload_n hx hb dX7_worstOf_40 rfl (lv_at hl 3 rfl) ?_
        refine lv_istore_n (lv' := [(2, .int x3), (0, .ref (ρ 40)), (1, .int x1), (3, .int x3)]) hx hb dX7_worstOf_41 rfl hl (by decide) rfl (fun ls hl => ?_)
        refine lv_iinc (v := (x3 + 1)) (lv' := [(3, .int (x3 + 1)), (2, .int x3), (0, .ref (ρ 40)), (1, .int x1)]) hx hb dX7_worstOf_42 hl (k := 3) rfl rfl (by decide) rfl (fun ls hl => ?_)
        refine lv_goto (tgt := 4) hx hb dX7_worstOf_45 (by decide) ?_
        exact ih _ _ _ _ h (lv_sub hl [2, 3, 1, 0] rfl)
set_option maxRecDepth 100000 in
set_option maxHeartbeats 4000000 in
theorem cM_worstOf {l : Launch} {D : va_G} {κ : Nat → ClassId} {ρ : Nat → Nat} {N : Nat} {σ : MSt} {x1 : Int32} {r : Int32} (h : fM_worstOf N σ x1 = some r) : Met l yX7_worstOf wsX7_worstOf ({ frames := 1, cells := 0, slots := 0, locals := 22 } : Room) (va_Pc [.ref (ρ 40), .int x1] (PR D κ ρ σ)) (PU (some (.int r))) 0 0 (fun _ => False) := by
  refine mMetR (ret := (some .int)) (by decide) rfl rfl (Nat.le_of_ble_eq_true rfl) ?_
  intro p e s m below meth c ls C hr hlk hP hl
  have hl : lv_has ls 4 [(0, .ref (ρ 40)), (1, .int x1)] := hl
  unfold fM_worstOf at h
  have hx := C.1.1
  have hb := C.1.2.1
  have hts := C.1.2.2.2.2
  have hown := C.1.2.2.2.1
  refine lv_iconst (v := (0 : Int32)) hx hb dX7_worstOf_0 (by decide) ?_
  refine lv_istore_n (lv' := [(2, .int (0 : Int32)), (0, .ref (ρ 40)), (1, .int x1)]) hx hb dX7_worstOf_1 rfl hl (by decide) rfl (fun ls hl => ?_)
  refine lv_iconst (v := (1 : Int32)) hx hb dX7_worstOf_2 (by decide) ?_
  refine lv_istore_n (lv' := [(3, .int (1 : Int32)), (2, .int (0 : Int32)), (0, .ref (ρ 40)), (1, .int x1)]) hx hb dX7_worstOf_3 rfl hl (by decide) rfl (fun ls hl => ?_)
  exact wM_worstOf_L4 C hr hlk hP _ _ _ _ _ h (lv_sub hl [2, 3, 1, 0] rfl)
def fM_worst (N : Nat) (σ : MSt) (x1 : Int32) : Option (Int32 × MSt) := (fM_isPlan N σ x1).bind fun r_2 => (if r_2 = 0 then some ((-1 : Int32), σ) else (fM_isWholePlan N σ x1).bind fun r_12 => (if r_12 = 0 then some ((-3 : Int32), σ) else (fM_list N σ).bind fun r_22 => (fM_least N r_22).bind fun r_26 => (fM_all N r_26).bind fun r_32 => chk x1 60 ((fM_find N r_26 r_32 (r_26.2.2.1 12 x1.toNatClampNeg)).bind fun r_41 => (fM_worstOf N r_26 r_41).bind fun r_44 => some (r_44, r_26))))
set_option maxRecDepth 100000 in
set_option maxHeartbeats 4000000 in
theorem cM_worst {l : Launch} {D : va_G} {κ : Nat → ClassId} {ρ : Nat → Nat} {sz : Nat} {N : Nat} {σ : MSt} {x1 : Int32} {q : Int32 × MSt} (h : fM_worst N σ x1 = some q) : Met l yX7_worst wsX7_worst ({ frames := 5, cells := 0, slots := 0, locals := 117 } : Room) (va_Pc [.ref (ρ 40), .int x1] (PM D κ ρ sz σ)) (QM D κ ρ sz q.2 (some (.int q.1))) 0 0 (AM ρ sz) := by
  refine mMetM (ret := (some .int)) (by decide) rfl rfl (Nat.le_of_ble_eq_true rfl) ?_
  intro p e s m below meth c ls C hr hlk hD hP hl
  have hS : va_S (AM ρ s.heap.size) s.heap s.heap [] := va_S.rf
  have hl : lv_has ls 2 [(0, .ref (ρ 40)), (1, .int x1)] := hl
  unfold fM_worst at h
  have hx := C.1.1
  have hb := C.1.2.1
  have hts := C.1.2.2.2.2
  have hown := C.1.2.2.2.1
  have k_47 := hts (.fieldLink RX7 47 "PlanCabinetModel" "planCode" "[I") (by decide +kernel)
  have in_7 : ∀ w ∈ wsX70, w ∈ wsX7_worst := by decide +kernel
  refine lv_aload_n hx hb dX7_worst_0 rfl (lv_at hl 0 rfl) ?_
  refine lv_iload_n hx hb dX7_worst_1 rfl (lv_at hl 1 rfl) ?_
  obtain ⟨r_2, e_2, h⟩ := bnd_of h
  refine callP (W.runV (As := [.int x1]) C.1 (cM_isPlan e_2) (cwV 1 hts gX7_worst_X7_isPlan rfl rfl rfl (by decide +kernel) ⟨by decide, by decide⟩) (mPreR C.2 hP _) rfl rfl hl.1 rfl (lv_room (Nat.le_of_ble_eq_true rfl)) dX7_worst_2 ⟨Nat.zero_le _, Nat.zero_le _⟩) ?_
  refine lv_if_ne (tgt := 10) hx hb dX7_worst_5 (by decide) (fun c_5 => ?_) (fun c_5 => ?_)
  · have h := zz_neg c_5 h
    refine lv_aload_n hx hb dX7_worst_10 rfl (lv_at hl 0 rfl) ?_
    refine lv_iload_n hx hb dX7_worst_11 rfl (lv_at hl 1 rfl) ?_
    obtain ⟨r_12, e_12, h⟩ := bnd_of h
    refine callP (W.runV (As := [.int x1]) C.1 (cM_isWholePlan e_12) (cwV 1 hts gX7_worst_X7_isWholePlan rfl rfl rfl (by decide +kernel) ⟨by decide, by decide⟩) (mPreR C.2 hP _) rfl rfl hl.1 rfl (lv_room (Nat.le_of_ble_eq_true rfl)) dX7_worst_12 ⟨Nat.zero_le _, Nat.zero_le _⟩) ?_
    refine lv_if_ne (tgt := 21) hx hb dX7_worst_15 (by decide) (fun c_15 => ?_) (fun c_15 => ?_)
    · have h := zz_neg c_15 h
      refine lv_aload_n hx hb dX7_worst_21 rfl (lv_at hl 0 rfl) ?_
      obtain ⟨r_22, e_22, h⟩ := bnd_of h
      refine mCall (va_runV (As := []) C.1 (cM_list e_22) (cwV 0 hts gX7_worst_X7_list rfl rfl rfl (by decide +kernel) ⟨by decide, by decide⟩) (mPreM C.2 hP hD _) rfl rfl hl.1 rfl (lv_room (Nat.le_of_ble_eq_true rfl)) dX7_worst_22 ⟨Nat.zero_le _, Nat.zero_le _⟩) hS hD (fun _ h => Or.inr h) (fun H locs hP hS => ?_)
      refine lv_aload_n hx hb dX7_worst_25 rfl (lv_at hl 0 rfl) ?_
      obtain ⟨r_26, e_26, h⟩ := bnd_of h
      refine mCall (va_runV (As := []) C.1 (cM_least e_26) (cwV 0 hts gX7_worst_X7_least rfl rfl rfl (by decide +kernel) ⟨by decide, by decide⟩) (mPreM C.2 hP hD _) rfl rfl hl.1 rfl (lv_room (Nat.le_of_ble_eq_true rfl)) dX7_worst_26 ⟨Nat.zero_le _, Nat.zero_le _⟩) hS hD (fun _ h => Or.inr h) (fun H locs hP hS => ?_)
      refine lv_aload_n hx hb dX7_worst_29 rfl (lv_at hl 0 rfl) ?_
      refine lv_aload_n hx hb dX7_worst_30 rfl (lv_at hl 0 rfl) ?_
      refine lv_aload_n hx hb dX7_worst_31 rfl (lv_at hl 0 rfl) ?_
      obtain ⟨r_32, e_32, h⟩ := bnd_of h
      refine callP (W.runV (As := []) C.1 (cM_all e_32) (cwV 0 hts gX7_worst_X7_all rfl rfl rfl (by decide +kernel) ⟨by decide, by decide⟩) (mPreR C.2 hP _) rfl rfl hl.1 rfl (lv_room (Nat.le_of_ble_eq_true rfl)) dX7_worst_32 ⟨Nat.zero_le _, Nat.zero_le _⟩) ?_
      refine lv_aload_n hx hb dX7_worst_35 rfl (lv_at hl 0 rfl) ?_
      refine mG_12 C in_7 hP k_47 dX7_worst_36 ?_
      refine lv_iload_n hx hb dX7_worst_39 rfl (lv_at hl 1 rfl) ?_
      obtain ⟨b_40, h⟩ := chk_of h
      refine mL_12 C hP b_40 dX7_worst_40 ?_
      obtain ⟨r_41, e_41, h⟩ := bnd_of h
      refine callP (W.runV (As := [.int r_32, .int (r_26.2.2.1 12 x1.toNatClampNeg)]) C.1 (cM_find e_41) (cwV 2 hts gX7_worst_X7_find rfl rfl rfl (by decide +kernel) ⟨by decide, by decide⟩) (mPreR C.2 hP _) rfl rfl hl.1 rfl (lv_room (Nat.le_of_ble_eq_true rfl)) dX7_worst_41 ⟨Nat.zero_le _, Nat.zero_le _⟩) ?_
      obtain ⟨r_44, e_44, h⟩ := bnd_of h
      refine callP (W.runV (As := [.int r_41]) C.1 (cM_worstOf e_44) (cwV 1 hts gX7_worst_X7_worstOf rfl rfl rfl (by decide +kernel) ⟨by decide, by decide⟩) (mPreR C.2 hP _) rfl rfl hl.1 rfl (lv_room (Nat.le_of_ble_eq_true rfl)) dX7_worst_44 ⟨Nat.zero_le _, Nat.zero_le _⟩) ?_
      exact W.iret hx hb hr (fun t ht hW => ⟨by rw [← some_of h], by rw [ht, ← some_of h]; exact hP, hS.F ht⟩) hS.2.2 dX7_worst_47
    · have h := zz_pos c_15 h
      refine lv_bipush (v := (-3 : Int32)) hx hb dX7_worst_18 (by decide) ?_
      exact W.iret hx hb hr (fun t ht hW => ⟨by rw [← some_of h], by rw [ht, ← some_of h]; exact hP, hS.F ht⟩) hS.2.2 dX7_worst_20
  · have h := zz_pos c_5 h
    refine lv_iconst (v := (-1 : Int32)) hx hb dX7_worst_8 (by decide) ?_
    exact W.iret hx hb hr (fun t ht hW => ⟨by rw [← some_of h], by rw [ht, ← some_of h]; exact hP, hS.F ht⟩) hS.2.2 dX7_worst_9
def fM_blind_L22 (N : Nat) : Nat → MSt → Int32 → Int32 → Option (Int32 × MSt)
  | 0, _, _, _ => none
  | n + 1, σ, x1, x2 => (if (σ.1 26) ≤ x2 then some (x1, σ) else chk x2 5000 ((fM_worstOf N σ (σ.2.2.1 23 x2.toNatClampNeg)).bind fun r_37 => chk x1 5000 ((fM_worstOf N σ (σ.2.2.1 23 x1.toNatClampNeg)).bind fun r_48 => chk x2 5000 ((fM_at N σ (σ.2.2.1 23 x2.toNatClampNeg) r_37).bind fun r_61 => chk r_48 33 (chk x1 5000 ((fM_at N σ (σ.2.2.1 23 x1.toNatClampNeg) r_48).bind fun r_81 => chk r_37 33 ((if 0 ≤ (lg_cmp (r_61 * (σ.2.2.2 27 r_48.toNatClampNeg)) (r_81 * (σ.2.2.2 27 r_37.toNatClampNeg))) then fM_blind_L22 N n σ x1 (x2 + 1) else fM_blind_L22 N n σ x2 (x2 + 1)))))))))
def fM_blind (N : Nat) (σ : MSt) : Option (Int32 × MSt) := (fM_isWhole N σ).bind fun r_1 => (if r_1 = 0 then some ((-3 : Int32), σ) else (fM_span N σ).bind fun r_11 => (fM_least N r_11).bind fun r_15 => fM_blind_L22 N N r_15 (0 : Int32) (1 : Int32))
set_option maxRecDepth 100000 in
set_option maxHeartbeats 4000000 in
theorem wM_blind_L22 {p : Program} {l : Launch} {e : Env} {s : State} {m : MethodId} {args : Array Value} {below : List Frame} {meth : Method} {c : Code} {D : va_G} {κ : Nat → ClassId} {ρ : Nat → Nat} (C : MC p m c cX7_blind 5 s args wsX7_blind D κ) (hr : meth.sig.returnType = (some .int)) (hlk : meth.locks = false) (hD : DM (AM ρ s.heap.size) ρ) {N : Nat} {q : Int32 × MSt} : ∀ (n : Nat) (σ : MSt) (x1 : Int32) (x2 : Int32) (H : Heap) (locs : List Loc) (ls : Array Slot), fM_blind_L22 N n σ x1 x2 = some q → va_P D vwCl (cellsM κ ρ σ) H → va_S (AM ρ s.heap.size) s.heap H locs → lv_has ls 5 [(0, .ref (ρ 40)), (1, .int x1), (2, .int x2)] → W p l e ({ frames := 6, cells := 0, slots := 0, locals := 151 } : Room) s m args below meth c H locs 0 0 (MQ below (QM D κ ρ s.heap.size q.2 (some (.int q.1))) args s 0 0 (AM ρ s.heap.size)) (F0 m 22 ls []) := by
  have hx := C.1.1
  have hb := C.1.2.1
  have hts := C.1.2.2.2.2
  have hown := C.1.2.2.2.1
  have k_82 := hts (.fieldLink RX7 82 "PlanCabinetModel" "keen" "[I") (by decide +kernel)
  have k_91 := hts (.fieldLink RX7 91 "PlanCabinetModel" "spans" "I") (by decide +kernel)
  have k_94 := hts (.fieldLink RX7 94 "PlanCabinetModel" "leastAt" "[J") (by decide +kernel)
  have in_7 : ∀ w ∈ wsX70, w ∈ wsX7_blind := by decide +kernel
  intro n
  induction n with
  | zero =>
    intro σ x1 x2 H locs ls h hP hS hl
    rw [fM_blind_L22] at h
    cases h
  | succ n ih =>
    intro σ x1 x2 H locs ls h hP hS hl
    rw [fM_blind_L22] at h
    refine lv_iload_n hx hb dX7_blind_22 rfl (lv_at hl 2 rfl) ?_
    refine lv_aload_n hx hb dX7_blind_23 rfl (lv_at hl 0 rfl) ?_
    refine mG_26 C in_7 hP k_91 dX7_blind_24 ?_
    refine lv_icmp_ge (tgt := 103) hx hb dX7_blind_27 (by decide) (fun c_27 => ?_) (fun c_27 => ?_)
    · have h := zz_pos c_27 h
      refine lv_iload_n hx hb dX7_blind_103 rfl (lv_at hl 1 rfl) ?_
      exact W.iret hx hb hr (fun t ht hW => ⟨by rw [← some_of h], by rw [ht, ← some_of h]; exact hP, hS.F ht⟩) hS.2.2 dX7_blind_104
    · have h := zz_neg c_27 h
      refine lv_aload_n hx hb dX7_blind_30 rfl (lv_at hl 0 rfl) ?_
      refine lv_aload_n hx hb dX7_blind_31 rfl (lv_at hl 0 rfl) ?_
      refine mG_23 C in_7 hP k_82 dX7_blind_32 ?_
      refine lv_iload_n hx hb dX7_blind_35 rfl (lv_at hl 2 rfl) ?_
      obtain ⟨b_36, h⟩ := chk_of h
      refine mL_23 C hP b_36 dX7_blind_36 ?_
      obtain ⟨r_37, e_37, h⟩ := bnd_of h
      refine callP (W.runV (As := [.int (σ.2.2.1 23 x2.toNatClampNeg)]) C.1 (cM_worstOf e_37) (cwV 1 hts gX7_blind_X7_worstOf rfl rfl rfl (by decide +kernel) ⟨by decide, by decide⟩) (mPreR C.2 hP _) rfl rfl hl.1 rfl (lv_room (Nat.le_of_ble_eq_true rfl)) dX7_blind_37 ⟨Nat.zero_le _, Nat.zero_le _⟩) ?_
      refine lv_istore_n (lv' := [(3, .int r_37), (0, .ref (ρ 40)), (1, .int x1), (2, .int x2)]) hx hb dX7_blind_40 rfl hl (by decide) rfl (fun ls hl => ?_)
      refine lv_aload_n hx hb dX7_blind_41 rfl (lv_at hl 1 rfl) ?_
      refine lv_aload_n hx hb dX7_blind_42 rfl (lv_at hl 1 rfl) ?_
      refine mG_23 C in_7 hP k_82 dX7_blind_43 ?_
      refine lv_iload_n hx hb dX7_blind_46 rfl (lv_at hl 2 rfl) ?_
      obtain ⟨b_47, h⟩ := chk_of h
      refine mL_23 C hP b_47 dX7_blind_47 ?_
      obtain ⟨r_48, e_48, h⟩ := bnd_of h
      refine callP (W.runV (As := [.int (σ.2.2.1 23 x1.toNatClampNeg)]) C.1 (cM_worstOf e_48) (cwV 1 hts gX7_blind_X7_worstOf rfl rfl rfl (by decide +kernel) ⟨by decide, by decide⟩) (mPreR C.2 hP _) rfl rfl hl.1 rfl (lv_room (Nat.le_of_ble_eq_true rfl)) dX7_blind_48 ⟨Nat.zero_le _, Nat.zero_le _⟩) ?_
      refine lv_istore (lv' := [(4, .int r_48), (3, .int r_37), (0, .ref (ρ 40)), (1, .int x1), (2, .int x2)]) hx hb dX7_blind_51 hl (by decide) rfl (fun ls hl => ?_)
      refine lv_aload_n hx hb dX7_blind_53 rfl (lv_at hl 2 rfl) ?_
      refine lv_aload_n hx hb dX7_blind_54 rfl (lv_at hl 2 rfl) ?_
      refine mG_23 C in_7 hP k_82 dX7_blind_55 ?_
      refine lv_iload_n hx hb dX7_blind_58 rfl (lv_at hl 4 rfl) ?_
      obtain ⟨b_59, h⟩ := chk_of h
      refine mL_23 C hP b_59 dX7_blind_59 ?_
      refine lv_iload_n hx hb dX7_blind_60 rfl (lv_at hl 1 rfl) ?_
      obtain ⟨r_61, e_61, h⟩ := bnd_of h
      refine callP (W.runV (As := [.int (σ.2.2.1 23 x2.toNatClampNeg), .int r_37]) C.1 (cM_at e_61) (cwV 2 hts gX7_blind_X7_at rfl rfl rfl (by decide +kernel) ⟨by decide, by decide⟩) (mPreR C.2 hP _) rfl rfl hl.1 rfl (lv_room (Nat.le_of_ble_eq_true rfl)) dX7_blind_61 ⟨Nat.zero_le _, Nat.zero_le _⟩) ?_
      refine lv_aload_n hx hb dX7_blind_64 rfl (lv_at hl 2 rfl) ?_
      refine mG_27 C in_7 hP k_94 dX7_blind_65 ?_
      refine lv_iload hx hb dX7_blind_68 (lv_at hl 0 rfl) ?_
      obtain ⟨b_70, h⟩ := chk_of h
      refine mL_27 C hP b_70 dX7_blind_70 ?_
      refine lv_lmul hx hb dX7_blind_71 ?_
      refine lv_aload_n hx hb dX7_blind_72 rfl (lv_at hl 2 rfl) ?_
      refine lv_aload_n hx hb dX7_blind_73 rfl (lv_at hl 2 rfl) ?_
      refine mG_23 C in_7 hP k_82 dX7_blind_74 ?_
      refine lv_iload_n hx hb dX7_blind_77 rfl (lv_at hl 3 rfl) ?_
      obtain ⟨b_78, h⟩ := chk_of h
      refine mL_23 C hP b_78 dX7_blind_78 ?_
      refine lv_iload hx hb dX7_blind_79 (lv_at hl 0 rfl) ?_
      obtain ⟨r_81, e_81, h⟩ := bnd_of h
      refine callP (W.runV (As := [.int (σ.2.2.1 23 x1.toNatClampNeg), .int r_48]) C.1 (cM_at e_81) (cwV 2 hts gX7_blind_X7_at rfl rfl rfl (by decide +kernel) ⟨by decide, by decide⟩) (mPreR C.2 hP _) rfl rfl hl.1 rfl (lv_room (Nat.le_of_ble_eq_true rfl)) dX7_blind_81 ⟨Nat.zero_le _, Nat.zero_le _⟩) ?_
      refine lv_aload_n hx hb dX7_blind_84 rfl (lv_at hl 2 rfl) ?_
      refine mG_27 C in_7 hP k_94 dX7_blind_85 ?_
      refine lv_iload_n hx hb dX7_blind_88 rfl (lv_at hl 1 rfl) ?_
      obtain ⟨b_89, h⟩ := chk_of h
      refine mL_27 C hP b_89 dX7_blind_89 ?_
      refine lv_lmul hx hb dX7_blind_90 ?_
      refine W.lcmp hx hb dX7_blind_91 ?_
      refine lv_if_ge (tgt := 97) hx hb dX7_blind_92 (by decide) (fun c_92 => ?_) (fun c_92 => ?_)
      · have h := zz_pos c_92 h
        refine lv_iinc (v := (x2 + 1)) (lv' := [(2, .int (x2 + 1)), (4, .int r_48), (3, .int r_37), (0, .ref (ρ 40)), (1, .int x1)]) hx hb dX7_blind_97 hl (k := 4) rfl rfl (by decide) rfl (fun ls hl => ?_)
        refine lv_goto (tgt := 22) hx hb dX7_blind_100 (by decide) ?_
        exact ih _ _ _ _ _ _ h hP hS (lv_sub hl [3, 4, 0] rfl)
      · have h := zz_neg c_92 h
        refine lv_iload_n hx hb dX7_blind_95 rfl (lv_at hl 4 rfl) ?_
        refine lv_istore_n (lv' := [(1, .int x2), (4, .int r_48), (3, .int r_37), (0, .ref (ρ 40)), (2, .int x2)]) hx hb dX7_blind_96 rfl hl (by decide) rfl (fun ls hl => ?_)
        refine lv_iinc (v := (x2 + 1)) (lv' := [(2, .int (x2 + 1)), (1, .int x2), (4, .int r_48), (3, .int r_37), (0, .ref (ρ 40))]) hx hb dX7_blind_97 hl (k := 4) rfl rfl (by decide) rfl (fun ls hl => ?_)
        refine lv_goto (tgt := 22) hx hb dX7_blind_100 (by decide) ?_
        exact ih _ _ _ _ _ _ h hP hS (lv_sub hl [4, 1, 0] rfl)
set_option maxRecDepth 100000 in
set_option maxHeartbeats 4000000 in
theorem cM_blind {l : Launch} {D : va_G} {κ : Nat → ClassId} {ρ : Nat → Nat} {sz : Nat} {N : Nat} {σ : MSt} {q : Int32 × MSt} (h : fM_blind N σ = some q) : Met l yX7_blind wsX7_blind ({ frames := 6, cells := 0, slots := 0, locals := 151 } : Room) (va_Pc [.ref (ρ 40)] (PM D κ ρ sz σ)) (QM D κ ρ sz q.2 (some (.int q.1))) 0 0 (AM ρ sz) := by
  refine mMetM (ret := (some .int)) (by decide) rfl rfl (Nat.le_of_ble_eq_true rfl) ?_
  intro p e s m below meth c ls C hr hlk hD hP hl
  have hS : va_S (AM ρ s.heap.size) s.heap s.heap [] := va_S.rf
  have hl : lv_has ls 5 [(0, .ref (ρ 40))] := hl
  unfold fM_blind at h
  have hx := C.1.1
  have hb := C.1.2.1
  have hts := C.1.2.2.2.2
  have hown := C.1.2.2.2.1
  refine lv_aload_n hx hb dX7_blind_0 rfl (lv_at hl 0 rfl) ?_
  obtain ⟨r_1, e_1, h⟩ := bnd_of h
  refine callP (W.runV (As := []) C.1 (cM_isWhole e_1) (cwV 0 hts gX7_blind_X7_isWhole rfl rfl rfl (by decide +kernel) ⟨by decide, by decide⟩) (mPreR C.2 hP _) rfl rfl hl.1 rfl (lv_room (Nat.le_of_ble_eq_true rfl)) dX7_blind_1 ⟨Nat.zero_le _, Nat.zero_le _⟩) ?_
  refine lv_if_ne (tgt := 10) hx hb dX7_blind_4 (by decide) (fun c_4 => ?_) (fun c_4 => ?_)
  · have h := zz_neg c_4 h
    refine lv_aload_n hx hb dX7_blind_10 rfl (lv_at hl 0 rfl) ?_
    obtain ⟨r_11, e_11, h⟩ := bnd_of h
    refine mCall (va_runV (As := []) C.1 (cM_span e_11) (cwV 0 hts gX7_blind_X7_span rfl rfl rfl (by decide +kernel) ⟨by decide, by decide⟩) (mPreM C.2 hP hD _) rfl rfl hl.1 rfl (lv_room (Nat.le_of_ble_eq_true rfl)) dX7_blind_11 ⟨Nat.zero_le _, Nat.zero_le _⟩) hS hD (fun _ h => Or.inr h) (fun H locs hP hS => ?_)
    refine lv_aload_n hx hb dX7_blind_14 rfl (lv_at hl 0 rfl) ?_
    obtain ⟨r_15, e_15, h⟩ := bnd_of h
    refine mCall (va_runV (As := []) C.1 (cM_least e_15) (cwV 0 hts gX7_blind_X7_least rfl rfl rfl (by decide +kernel) ⟨by decide, by decide⟩) (mPreM C.2 hP hD _) rfl rfl hl.1 rfl (lv_room (Nat.le_of_ble_eq_true rfl)) dX7_blind_15 ⟨Nat.zero_le _, Nat.zero_le _⟩) hS hD (fun _ h => Or.inr h) (fun H locs hP hS => ?_)
    refine lv_iconst (v := (0 : Int32)) hx hb dX7_blind_18 (by decide) ?_
    refine lv_istore_n (lv' := [(1, .int (0 : Int32)), (0, .ref (ρ 40))]) hx hb dX7_blind_19 rfl hl (by decide) rfl (fun ls hl => ?_)
    refine lv_iconst (v := (1 : Int32)) hx hb dX7_blind_20 (by decide) ?_
    refine lv_istore_n (lv' := [(2, .int (1 : Int32)), (1, .int (0 : Int32)), (0, .ref (ρ 40))]) hx hb dX7_blind_21 rfl hl (by decide) rfl (fun ls hl => ?_)
    exact wM_blind_L22 C hr hlk hD _ _ _ _ _ _ _ h hP hS (lv_sub hl [2, 1, 0] rfl)
  · have h := zz_pos c_4 h
    refine lv_bipush (v := (-3 : Int32)) hx hb dX7_blind_7 (by decide) ?_
    exact W.iret hx hb hr (fun t ht hW => ⟨by rw [← some_of h], by rw [ht, ← some_of h]; exact hP, hS.F ht⟩) hS.2.2 dX7_blind_9
def fM_isEnough_L13 (N : Nat) (σ : MSt) (K63 : Int32 → Int32 → Int32 → Option (Int32)) : Nat → Int32 → Int32 → Int32 → Int32 → Option (Int32)
  | 0, _, _, _, _ => none
  | n + 1, x1, x2, x3, x4 => (if (σ.1 26) ≤ x4 then K63 x1 x2 x3 else (if x3 = 0 then (if ((x1 >>> (x4 &&& 31)) &&& (1 : Int32)) = (1 : Int32) then chk (((33 : Int32) * x4) + x2) 528 ((if (σ.2.2.1 28 (((33 : Int32) * x4) + x2).toNatClampNeg) = 0 then fM_isEnough_L13 N σ K63 n x1 x2 (0 : Int32) (x4 + 1) else fM_isEnough_L13 N σ K63 n x1 x2 (1 : Int32) (x4 + 1))) else fM_isEnough_L13 N σ K63 n x1 x2 (0 : Int32) (x4 + 1)) else fM_isEnough_L13 N σ K63 n x1 x2 (1 : Int32) (x4 + 1)))
def fM_isEnough_L2 (N : Nat) (σ : MSt) : Nat → Int32 → Int32 → Option (Int32)
  | 0, _, _ => none
  | n + 1, x1, x2 => (if (32 : Int32) < x2 then some (1 : Int32) else fM_isEnough_L13 N σ (fun (x1 : Int32) (x2 : Int32) (x3 : Int32) => (if x3 = 0 then some (0 : Int32) else fM_isEnough_L2 N σ n x1 (x2 + 1))) N x1 x2 (0 : Int32) (0 : Int32))
def fM_isEnough (N : Nat) (σ : MSt) (x1 : Int32) : Option (Int32) := fM_isEnough_L2 N σ N x1 (0 : Int32)
set_option maxRecDepth 100000 in
set_option maxHeartbeats 4000000 in
theorem wM_isEnough_L13 {p : Program} {l : Launch} {e : Env} {s : State} {m : MethodId} {args : Array Value} {below : List Frame} {meth : Method} {c : Code} {D : va_G} {κ : Nat → ClassId} {ρ : Nat → Nat} {σ : MSt} (C : MC p m c cX7_isEnough 5 s args wsX7_isEnough D κ) (hr : meth.sig.returnType = (some .boolean)) (hlk : meth.locks = false) (hP : va_P D vwCl (cellsM κ ρ σ) s.heap) {N : Nat} {r : Int32} {K63 : Int32 → Int32 → Int32 → Option (Int32)} : ∀ (n : Nat) (x1 : Int32) (x2 : Int32) (x3 : Int32) (x4 : Int32) (ls : Array Slot), fM_isEnough_L13 N σ K63 n x1 x2 x3 x4 = some r → lv_has ls 5 [(0, .ref (ρ 40)), (1, .int x1), (2, .int x2), (3, .int x3), (4, .int x4)] → (∀ (x1 : Int32) (x2 : Int32) (x3 : Int32) (ls : Array Slot), K63 x1 x2 x3 = some r → lv_has ls 5 [(0, .ref (ρ 40)), (1, .int x1), (2, .int x2), (3, .int x3)] → W p l e ({ frames := 0, cells := 0, slots := 0, locals := 0 } : Room) s m args below meth c s.heap [] 0 0 (MQ below (PU (some (.int r))) args s 0 0 (fun _ => False)) (F0 m 63 ls [])) → W p l e ({ frames := 0, cells := 0, slots := 0, locals := 0 } : Room) s m args below meth c s.heap [] 0 0 (MQ below (PU (some (.int r))) args s 0 0 (fun _ => False)) (F0 m 13 ls []) := by
  have hx := C.1.1
  have hb := C.1.2.1
  have hts := C.1.2.2.2.2
  have hown := C.1.2.2.2.1
  have k_91 := hts (.fieldLink RX7 91 "PlanCabinetModel" "spans" "I") (by decide +kernel)
  have k_97 := hts (.fieldLink RX7 97 "PlanCabinetModel" "isNearAt" "[Z") (by decide +kernel)
  have in_7 : ∀ w ∈ wsX70, w ∈ wsX7_isEnough := by decide +kernel
  intro n
  induction n with
  | zero =>
    intro x1 x2 x3 x4 ls h hl hK63
    rw [fM_isEnough_L13] at h
    cases h
  | succ n ih =>
    intro x1 x2 x3 x4 ls h hl hK63
    rw [fM_isEnough_L13] at h
    refine lv_iload hx hb dX7_isEnough_13 (lv_at hl 4 rfl) ?_
    refine lv_aload_n hx hb dX7_isEnough_15 rfl (lv_at hl 0 rfl) ?_
    refine mG_26 C in_7 hP k_91 dX7_isEnough_16 ?_
    refine lv_icmp_ge (tgt := 63) hx hb dX7_isEnough_19 (by decide) (fun c_19 => ?_) (fun c_19 => ?_)
    · have h := zz_pos c_19 h
      exact hK63 _ _ _ _ h (lv_sub hl [0, 1, 2, 3] rfl)
    · have h := zz_neg c_19 h
      refine lv_iload_n hx hb dX7_isEnough_22 rfl (lv_at hl 3 rfl) ?_
      refine lv_if_ne (tgt := 51) hx hb dX7_isEnough_23 (by decide) (fun c_23 => ?_) (fun c_23 => ?_)
      · have h := zz_neg c_23 h
        refine lv_iconst (v := (1 : Int32)) hx hb dX7_isEnough_51 (by decide) ?_
        refine lv_goto (tgt := 56) hx hb dX7_isEnough_52 (by decide) ?_
        refine lv_istore_n (lv' := [(3, .int (1 : Int32)), (0, .ref (ρ 40)), (1, .int x1), (2, .int x2), (4, .int x4)]) hx hb dX7_isEnough_56 rfl hl (by decide) rfl (fun ls hl => ?_)
        refine lv_iinc (v := (x4 + 1)) (lv' := [(4, .int (x4 + 1)), (3, .int (1 : Int32)), (0, .ref (ρ 40)), (1, .int x1), (2, .int x2)]) hx hb dX7_isEnough_57 hl (k := 4) rfl rfl (by decide) rfl (fun ls hl => ?_)
        refine lv_goto (tgt := 13) hx hb dX7_isEnough_60 (by decide) ?_
        exact ih _ _ _ _ _ h (lv_sub hl [2, 3, 4, 1, 0] rfl) hK63
      · have h := zz_pos c_23 h
        refine lv_iload_n hx hb dX7_isEnough_26 rfl (lv_at hl 1 rfl) ?_
        refine lv_iload hx hb dX7_isEnough_27 (lv_at hl 4 rfl) ?_
        refine lv_ishr hx hb dX7_isEnough_29 ?_
        refine lv_iconst (v := (1 : Int32)) hx hb dX7_isEnough_30 (by decide) ?_
        refine lv_iand hx hb dX7_isEnough_31 ?_
        refine lv_iconst (v := (1 : Int32)) hx hb dX7_isEnough_32 (by decide) ?_
        refine lv_icmp_ne (tgt := 55) hx hb dX7_isEnough_33 (by decide) (fun c_33 => ?_) (fun c_33 => ?_)
        · have h := zz_neg c_33 h
          refine lv_iconst (v := (0 : Int32)) hx hb dX7_isEnough_55 (by decide) ?_
          refine lv_istore_n (lv' := [(3, .int (0 : Int32)), (0, .ref (ρ 40)), (1, .int x1), (2, .int x2), (4, .int x4)]) hx hb dX7_isEnough_56 rfl hl (by decide) rfl (fun ls hl => ?_)
          refine lv_iinc (v := (x4 + 1)) (lv' := [(4, .int (x4 + 1)), (3, .int (0 : Int32)), (0, .ref (ρ 40)), (1, .int x1), (2, .int x2)]) hx hb dX7_isEnough_57 hl (k := 4) rfl rfl (by decide) rfl (fun ls hl => ?_)
          refine lv_goto (tgt := 13) hx hb dX7_isEnough_60 (by decide) ?_
          exact ih _ _ _ _ _ h (lv_sub hl [2, 3, 4, 1, 0] rfl) hK63
        · have h := zz_pos c_33 h
          refine lv_aload_n hx hb dX7_isEnough_36 rfl (lv_at hl 0 rfl) ?_
          refine mG_28 C in_7 hP k_97 dX7_isEnough_37 ?_
          refine lv_bipush (v := (33 : Int32)) hx hb dX7_isEnough_40 (by decide) ?_
          refine lv_iload hx hb dX7_isEnough_42 (lv_at hl 4 rfl) ?_
          refine lv_imul hx hb dX7_isEnough_44 ?_
          refine lv_iload_n hx hb dX7_isEnough_45 rfl (lv_at hl 2 rfl) ?_
          refine lv_iadd hx hb dX7_isEnough_46 ?_
          obtain ⟨b_47, h⟩ := chk_of h
          refine mL_28 C hP b_47 dX7_isEnough_47 ?_
          refine lv_if_eq (tgt := 55) hx hb dX7_isEnough_48 (by decide) (fun c_48 => ?_) (fun c_48 => ?_)
          · have h := zz_pos c_48 h
            refine lv_iconst (v := (0 : Int32)) hx hb dX7_isEnough_55 (by decide) ?_
            refine lv_istore_n (lv' := [(3, .int (0 : Int32)), (0, .ref (ρ 40)), (1, .int x1), (2, .int x2), (4, .int x4)]) hx hb dX7_isEnough_56 rfl hl (by decide) rfl (fun ls hl => ?_)
            refine lv_iinc (v := (x4 + 1)) (lv' := [(4, .int (x4 + 1)), (3, .int (0 : Int32)), (0, .ref (ρ 40)), (1, .int x1), (2, .int x2)]) hx hb dX7_isEnough_57 hl (k := 4) rfl rfl (by decide) rfl (fun ls hl => ?_)
            refine lv_goto (tgt := 13) hx hb dX7_isEnough_60 (by decide) ?_
            exact ih _ _ _ _ _ h (lv_sub hl [2, 3, 4, 1, 0] rfl) hK63
          · have h := zz_neg c_48 h
            refine lv_iconst (v := (1 : Int32)) hx hb dX7_isEnough_51 (by decide) ?_
            refine lv_goto (tgt := 56) hx hb dX7_isEnough_52 (by decide) ?_
            refine lv_istore_n (lv' := [(3, .int (1 : Int32)), (0, .ref (ρ 40)), (1, .int x1), (2, .int x2), (4, .int x4)]) hx hb dX7_isEnough_56 rfl hl (by decide) rfl (fun ls hl => ?_)
            refine lv_iinc (v := (x4 + 1)) (lv' := [(4, .int (x4 + 1)), (3, .int (1 : Int32)), (0, .ref (ρ 40)), (1, .int x1), (2, .int x2)]) hx hb dX7_isEnough_57 hl (k := 4) rfl rfl (by decide) rfl (fun ls hl => ?_)
            refine lv_goto (tgt := 13) hx hb dX7_isEnough_60 (by decide) ?_
            exact ih _ _ _ _ _ h (lv_sub hl [2, 3, 4, 1, 0] rfl) hK63
set_option maxRecDepth 100000 in
set_option maxHeartbeats 4000000 in
theorem wM_isEnough_L2 {p : Program} {l : Launch} {e : Env} {s : State} {m : MethodId} {args : Array Value} {below : List Frame} {meth : Method} {c : Code} {D : va_G} {κ : Nat → ClassId} {ρ : Nat → Nat} {σ : MSt} (C : MC p m c cX7_isEnough 5 s args wsX7_isEnough D κ) (hr : meth.sig.returnType = (some .boolean)) (hlk : meth.locks = false) (hP : va_P D vwCl (cellsM κ ρ σ) s.heap) {N : Nat} {r : Int32} : ∀ (n : Nat) (x1 : Int32) (x2 : Int32) (ls : Array Slot), fM_isEnough_L2 N σ n x1 x2 = some r → lv_has ls 5 [(0, .ref (ρ 40)), (1, .int x1), (2, .int x2)] → W p l e ({ frames := 0, cells := 0, slots := 0, locals := 0 } : Room) s m args below meth c s.heap [] 0 0 (MQ below (PU (some (.int r))) args s 0 0 (fun _ => False)) (F0 m 2 ls []) := by
  have hx := C.1.1
  have hb := C.1.2.1
  have hts := C.1.2.2.2.2
  have hown := C.1.2.2.2.1
  intro n
  induction n with
  | zero =>
    intro x1 x2 ls h hl
    rw [fM_isEnough_L2] at h
    cases h
  | succ n ih =>
    intro x1 x2 ls h hl
    rw [fM_isEnough_L2] at h
    refine lv_iload_n hx hb dX7_isEnough_2 rfl (lv_at hl 2 rfl) ?_
    refine lv_bipush (v := (32 : Int32)) hx hb dX7_isEnough_3 (by decide) ?_
    refine lv_icmp_gt (tgt := 75) hx hb dX7_isEnough_5 (by decide) (fun c_5 => ?_) (fun c_5 => ?_)
    · have h := zz_pos c_5 h
      refine lv_iconst (v := (1 : Int32)) hx hb dX7_isEnough_75 (by decide) ?_
      exact W.zret (ty := .boolean) hx hb hr (by decide +kernel) (fun t ht hW => ⟨by rw [some_of h], ht⟩) (fun _ h => by cases h) dX7_isEnough_76
    · have h := zz_neg c_5 h
      refine lv_iconst (v := (0 : Int32)) hx hb dX7_isEnough_8 (by decide) ?_
      refine lv_istore_n (lv' := [(3, .int (0 : Int32)), (0, .ref (ρ 40)), (1, .int x1), (2, .int x2)]) hx hb dX7_isEnough_9 rfl hl (by decide) rfl (fun ls hl => ?_)
      refine lv_iconst (v := (0 : Int32)) hx hb dX7_isEnough_10 (by decide) ?_
      refine lv_istore (lv' := [(4, .int (0 : Int32)), (3, .int (0 : Int32)), (0, .ref (ρ 40)), (1, .int x1), (2, .int x2)]) hx hb dX7_isEnough_11 hl (by decide) rfl (fun ls hl => ?_)
      refine wM_isEnough_L13 C hr hlk hP _ _ _ _ _ _ h (lv_sub hl [2, 3, 4, 1, 0] rfl) ?_
      intro x1 x2 x3 ls h hl
      refine lv_iload_n hx hb dX7_isEnough_63 rfl (lv_at hl 3 rfl) ?_
      refine lv_if_ne (tgt := 69) hx hb dX7_isEnough_64 (by decide) (fun c_64 => ?_) (fun c_64 => ?_)
      · have h := zz_neg c_64 h
        refine lv_iinc (v := (x2 + 1)) (lv' := [(2, .int (x2 + 1)), (0, .ref (ρ 40)), (1, .int x1), (3, .int x3)]) hx hb dX7_isEnough_69 hl (k := 2) rfl rfl (by decide) rfl (fun ls hl => ?_)
        refine lv_goto (tgt := 2) hx hb dX7_isEnough_72 (by decide) ?_
        exact ih _ _ _ h (lv_sub hl [1, 2, 0] rfl)
      · have h := zz_pos c_64 h
        refine lv_iconst (v := (0 : Int32)) hx hb dX7_isEnough_67 (by decide) ?_
        exact W.zret (ty := .boolean) hx hb hr (by decide +kernel) (fun t ht hW => ⟨by rw [some_of h], ht⟩) (fun _ h => by cases h) dX7_isEnough_68
set_option maxRecDepth 100000 in
set_option maxHeartbeats 4000000 in
theorem cM_isEnough {l : Launch} {D : va_G} {κ : Nat → ClassId} {ρ : Nat → Nat} {N : Nat} {σ : MSt} {x1 : Int32} {r : Int32} (h : fM_isEnough N σ x1 = some r) : Met l yX7_isEnough wsX7_isEnough ({ frames := 0, cells := 0, slots := 0, locals := 0 } : Room) (va_Pc [.ref (ρ 40), .int x1] (PR D κ ρ σ)) (PU (some (.int r))) 0 0 (fun _ => False) := by
  refine mMetR (ret := (some .boolean)) (by decide) rfl rfl (Nat.le_of_ble_eq_true rfl) ?_
  intro p e s m below meth c ls C hr hlk hP hl
  have hl : lv_has ls 5 [(0, .ref (ρ 40)), (1, .int x1)] := hl
  unfold fM_isEnough at h
  have hx := C.1.1
  have hb := C.1.2.1
  have hts := C.1.2.2.2.2
  have hown := C.1.2.2.2.1
  refine lv_iconst (v := (0 : Int32)) hx hb dX7_isEnough_0 (by decide) ?_
  refine lv_istore_n (lv' := [(2, .int (0 : Int32)), (0, .ref (ρ 40)), (1, .int x1)]) hx hb dX7_isEnough_1 rfl hl (by decide) rfl (fun ls hl => ?_)
  exact wM_isEnough_L2 C hr hlk hP _ _ _ _ h (lv_sub hl [1, 2, 0] rfl)
def fM_cover_L52 (N : Nat) (K87 : MSt → Int32 → Int32 → Option (Int32 × MSt)) : Nat → MSt → Int32 → Int32 → Int32 → Option (Int32 × MSt)
  | 0, _, _, _, _ => none
  | n + 1, σ, x1, x2, x3 => (if (32 : Int32) < x3 then K87 σ x1 x2 else chk x2 5000 ((fM_isNear N σ (σ.2.2.1 23 x2.toNatClampNeg) x3 x1).bind fun r_77 => chk (((33 : Int32) * x2) + x3) 528 (fM_cover_L52 N K87 n (sA σ 28 (((33 : Int32) * x2) + x3).toNatClampNeg (vp_nar .boolean r_77)) x1 x2 (x3 + 1))))
def fM_cover_L42 (N : Nat) (K93 : MSt → Option (Int32 × MSt)) : Nat → MSt → Int32 → Int32 → Option (Int32 × MSt)
  | 0, _, _, _ => none
  | n + 1, σ, x1, x2 => (if (σ.1 26) ≤ x2 then K93 σ else fM_cover_L52 N (fun (σ : MSt) (x1 : Int32) (x2 : Int32) => fM_cover_L42 N K93 n σ x1 (x2 + 1)) N σ x1 x2 (0 : Int32))
def fM_cover_J163 (N : Nat) (K104 : MSt → Int32 → Int32 → Option (Int32 × MSt)) (σ : MSt) (x2 : Int32) (x3 : Int32) (y0 : Int32) : Option (Int32 × MSt) := (if y0 = 0 then K104 σ x2 (x3 + 1) else (fM_isEnough N σ x3).bind fun r_172 => (if r_172 = 0 then K104 σ x2 (x3 + 1) else K104 σ x3 (x3 + 1)))
def fM_cover_J158 (N : Nat) (K104 : MSt → Int32 → Int32 → Option (Int32 × MSt)) (σ : MSt) (x2 : Int32) (x3 : Int32) : Option (Int32 × MSt) := fM_cover_J163 N (fun (σ : MSt) (x2 : Int32) (x3 : Int32) => K104 σ x2 x3) σ x2 x3 (1 : Int32)
def fM_cover_J162 (N : Nat) (K104 : MSt → Int32 → Int32 → Option (Int32 × MSt)) (σ : MSt) (x2 : Int32) (x3 : Int32) : Option (Int32 × MSt) := fM_cover_J163 N (fun (σ : MSt) (x2 : Int32) (x3 : Int32) => K104 σ x2 x3) σ x2 x3 (0 : Int32)
def fM_cover_L104 (N : Nat) : Nat → MSt → Int32 → Int32 → Option (Int32 × MSt)
  | 0, _, _, _ => none
  | n + 1, σ, x2, x3 => (if ((1 : Int32) <<< ((σ.1 26) &&& 31)) ≤ x3 then some (x2, σ) else (fM_bits N σ x3).bind fun r_116 => (fM_bits N σ x2).bind fun r_123 => (if r_116 < r_123 then fM_cover_J158 N (fun (σ : MSt) (x2 : Int32) (x3 : Int32) => fM_cover_L104 N n σ x2 x3) σ x2 x3 else (if r_116 = r_123 then (if ((x3 &&& (x3 ^^^ x2)) &&& (-(x3 ^^^ x2))) = 0 then fM_cover_J162 N (fun (σ : MSt) (x2 : Int32) (x3 : Int32) => fM_cover_L104 N n σ x2 x3) σ x2 x3 else fM_cover_J158 N (fun (σ : MSt) (x2 : Int32) (x3 : Int32) => fM_cover_L104 N n σ x2 x3) σ x2 x3) else fM_cover_J162 N (fun (σ : MSt) (x2 : Int32) (x3 : Int32) => fM_cover_L104 N n σ x2 x3) σ x2 x3)))
def fM_cover (N : Nat) (σ : MSt) (x1 : Int32) : Option (Int32 × MSt) := (if x1 < 0 then some ((-2 : Int32), σ) else (if x1 ≤ (10000 : Int32) then (fM_isWhole N σ).bind fun r_15 => (if r_15 = 0 then some ((-3 : Int32), σ) else (fM_span N σ).bind fun r_25 => (if (r_25.1 26) ≤ (16 : Int32) then fM_cover_L42 N (fun (σ : MSt) => fM_cover_L104 N N σ (((1 : Int32) <<< ((σ.1 26) &&& 31)) - (1 : Int32)) (1 : Int32)) N r_25 x1 (0 : Int32) else some ((-3 : Int32), r_25))) else some ((-2 : Int32), σ)))
set_option maxRecDepth 100000 in
set_option maxHeartbeats 4000000 in
theorem wM_cover_L52 {p : Program} {l : Launch} {e : Env} {s : State} {m : MethodId} {args : Array Value} {below : List Frame} {meth : Method} {c : Code} {D : va_G} {κ : Nat → ClassId} {ρ : Nat → Nat} (C : MC p m c cX7_cover 8 s args wsX7_cover D κ) (hr : meth.sig.returnType = (some .int)) (hlk : meth.locks = false) (hD : DM (AM ρ s.heap.size) ρ) {N : Nat} {q : Int32 × MSt} {K87 : MSt → Int32 → Int32 → Option (Int32 × MSt)} : ∀ (n : Nat) (σ : MSt) (x1 : Int32) (x2 : Int32) (x3 : Int32) (H : Heap) (locs : List Loc) (ls : Array Slot), fM_cover_L52 N K87 n σ x1 x2 x3 = some q → va_P D vwCl (cellsM κ ρ σ) H → va_S (AM ρ s.heap.size) s.heap H locs → lv_has ls 8 [(0, .ref (ρ 40)), (1, .int x1), (2, .int x2), (3, .int x3)] → (∀ (σ : MSt) (x1 : Int32) (x2 : Int32) (H : Heap) (locs : List Loc) (ls : Array Slot), K87 σ x1 x2 = some q → va_P D vwCl (cellsM κ ρ σ) H → va_S (AM ρ s.heap.size) s.heap H locs → lv_has ls 8 [(0, .ref (ρ 40)), (1, .int x1), (2, .int x2)] → W p l e ({ frames := 6, cells := 0, slots := 0, locals := 151 } : Room) s m args below meth c H locs 0 0 (MQ below (QM D κ ρ s.heap.size q.2 (some (.int q.1))) args s 0 0 (AM ρ s.heap.size)) (F0 m 87 ls [])) → W p l e ({ frames := 6, cells := 0, slots := 0, locals := 151 } : Room) s m args below meth c H locs 0 0 (MQ below (QM D κ ρ s.heap.size q.2 (some (.int q.1))) args s 0 0 (AM ρ s.heap.size)) (F0 m 52 ls []) := by
  have hx := C.1.1
  have hb := C.1.2.1
  have hts := C.1.2.2.2.2
  have hown := C.1.2.2.2.1
  have k_82 := hts (.fieldLink RX7 82 "PlanCabinetModel" "keen" "[I") (by decide +kernel)
  have k_97 := hts (.fieldLink RX7 97 "PlanCabinetModel" "isNearAt" "[Z") (by decide +kernel)
  have in_7 : ∀ w ∈ wsX70, w ∈ wsX7_cover := by decide +kernel
  intro n
  induction n with
  | zero =>
    intro σ x1 x2 x3 H locs ls h hP hS hl hK87
    rw [fM_cover_L52] at h
    cases h
  | succ n ih =>
    intro σ x1 x2 x3 H locs ls h hP hS hl hK87
    rw [fM_cover_L52] at h
    refine lv_iload_n hx hb dX7_cover_52 rfl (lv_at hl 3 rfl) ?_
    refine lv_bipush (v := (32 : Int32)) hx hb dX7_cover_53 (by decide) ?_
    refine lv_icmp_gt (tgt := 87) hx hb dX7_cover_55 (by decide) (fun c_55 => ?_) (fun c_55 => ?_)
    · have h := zz_pos c_55 h
      exact hK87 _ _ _ _ _ _ h hP hS (lv_sub hl [0, 1, 2] rfl)
    · have h := zz_neg c_55 h
      refine lv_aload_n hx hb dX7_cover_58 rfl (lv_at hl 0 rfl) ?_
      refine mG_28 C in_7 hP k_97 dX7_cover_59 ?_
      refine lv_bipush (v := (33 : Int32)) hx hb dX7_cover_62 (by decide) ?_
      refine lv_iload_n hx hb dX7_cover_64 rfl (lv_at hl 2 rfl) ?_
      refine lv_imul hx hb dX7_cover_65 ?_
      refine lv_iload_n hx hb dX7_cover_66 rfl (lv_at hl 3 rfl) ?_
      refine lv_iadd hx hb dX7_cover_67 ?_
      refine lv_aload_n hx hb dX7_cover_68 rfl (lv_at hl 0 rfl) ?_
      refine lv_aload_n hx hb dX7_cover_69 rfl (lv_at hl 0 rfl) ?_
      refine mG_23 C in_7 hP k_82 dX7_cover_70 ?_
      refine lv_iload_n hx hb dX7_cover_73 rfl (lv_at hl 2 rfl) ?_
      obtain ⟨b_74, h⟩ := chk_of h
      refine mL_23 C hP b_74 dX7_cover_74 ?_
      refine lv_iload_n hx hb dX7_cover_75 rfl (lv_at hl 3 rfl) ?_
      refine lv_iload_n hx hb dX7_cover_76 rfl (lv_at hl 1 rfl) ?_
      obtain ⟨r_77, e_77, h⟩ := bnd_of h
      refine callP (W.runV (As := [.int (σ.2.2.1 23 x2.toNatClampNeg), .int x3, .int x1]) C.1 (cM_isNear e_77) (cwV 3 hts gX7_cover_X7_isNear rfl rfl rfl (by decide +kernel) ⟨by decide, by decide⟩) (mPreR C.2 hP _) rfl rfl hl.1 rfl (lv_room (Nat.le_of_ble_eq_true rfl)) dX7_cover_77 ⟨Nat.zero_le _, Nat.zero_le _⟩) ?_
      obtain ⟨b_80, h⟩ := chk_of h
      refine mS_28 C hP hD hS b_80 dX7_cover_80 (fun H locs hP hS => ?_)
      refine lv_iinc (v := (x3 + 1)) (lv' := [(3, .int (x3 + 1)), (0, .ref (ρ 40)), (1, .int x1), (2, .int x2)]) hx hb dX7_cover_81 hl (k := 3) rfl rfl (by decide) rfl (fun ls hl => ?_)
      refine lv_goto (tgt := 52) hx hb dX7_cover_84 (by decide) ?_
      exact ih _ _ _ _ _ _ _ h hP hS (lv_sub hl [1, 2, 3, 0] rfl) hK87
set_option maxRecDepth 100000 in
set_option maxHeartbeats 4000000 in
theorem wM_cover_L42 {p : Program} {l : Launch} {e : Env} {s : State} {m : MethodId} {args : Array Value} {below : List Frame} {meth : Method} {c : Code} {D : va_G} {κ : Nat → ClassId} {ρ : Nat → Nat} (C : MC p m c cX7_cover 8 s args wsX7_cover D κ) (hr : meth.sig.returnType = (some .int)) (hlk : meth.locks = false) (hD : DM (AM ρ s.heap.size) ρ) {N : Nat} {q : Int32 × MSt} {K93 : MSt → Option (Int32 × MSt)} : ∀ (n : Nat) (σ : MSt) (x1 : Int32) (x2 : Int32) (H : Heap) (locs : List Loc) (ls : Array Slot), fM_cover_L42 N K93 n σ x1 x2 = some q → va_P D vwCl (cellsM κ ρ σ) H → va_S (AM ρ s.heap.size) s.heap H locs → lv_has ls 8 [(0, .ref (ρ 40)), (1, .int x1), (2, .int x2)] → (∀ (σ : MSt) (H : Heap) (locs : List Loc) (ls : Array Slot), K93 σ = some q → va_P D vwCl (cellsM κ ρ σ) H → va_S (AM ρ s.heap.size) s.heap H locs → lv_has ls 8 [(0, .ref (ρ 40))] → W p l e ({ frames := 6, cells := 0, slots := 0, locals := 151 } : Room) s m args below meth c H locs 0 0 (MQ below (QM D κ ρ s.heap.size q.2 (some (.int q.1))) args s 0 0 (AM ρ s.heap.size)) (F0 m 93 ls [])) → W p l e ({ frames := 6, cells := 0, slots := 0, locals := 151 } : Room) s m args below meth c H locs 0 0 (MQ below (QM D κ ρ s.heap.size q.2 (some (.int q.1))) args s 0 0 (AM ρ s.heap.size)) (F0 m 42 ls []) := by
  have hx := C.1.1
  have hb := C.1.2.1
  have hts := C.1.2.2.2.2
  have hown := C.1.2.2.2.1
  have k_91 := hts (.fieldLink RX7 91 "PlanCabinetModel" "spans" "I") (by decide +kernel)
  have in_7 : ∀ w ∈ wsX70, w ∈ wsX7_cover := by decide +kernel
  intro n
  induction n with
  | zero =>
    intro σ x1 x2 H locs ls h hP hS hl hK93
    rw [fM_cover_L42] at h
    cases h
  | succ n ih =>
    intro σ x1 x2 H locs ls h hP hS hl hK93
    rw [fM_cover_L42] at h
    refine lv_iload_n hx hb dX7_cover_42 rfl (lv_at hl 2 rfl) ?_
    refine lv_aload_n hx hb dX7_cover_43 rfl (lv_at hl 0 rfl) ?_
    refine mG_26 C in_7 hP k_91 dX7_cover_44 ?_
    refine lv_icmp_ge (tgt := 93) hx hb dX7_cover_47 (by decide) (fun c_47 => ?_) (fun c_47 => ?_)
    · have h := zz_pos c_47 h
      exact hK93 _ _ _ _ h hP hS (lv_sub hl [0] rfl)
    · have h := zz_neg c_47 h
      refine lv_iconst (v := (0 : Int32)) hx hb dX7_cover_50 (by decide) ?_
      refine lv_istore_n (lv' := [(3, .int (0 : Int32)), (0, .ref (ρ 40)), (1, .int x1), (2, .int x2)]) hx hb dX7_cover_51 rfl hl (by decide) rfl (fun ls hl => ?_)
      refine wM_cover_L52 C hr hlk hD _ _ _ _ _ _ _ _ h hP hS (lv_sub hl [1, 2, 3, 0] rfl) ?_
      intro σ x1 x2 H locs ls h hP hS hl
      refine lv_iinc (v := (x2 + 1)) (lv' := [(2, .int (x2 + 1)), (0, .ref (ρ 40)), (1, .int x1)]) hx hb dX7_cover_87 hl (k := 2) rfl rfl (by decide) rfl (fun ls hl => ?_)
      refine lv_goto (tgt := 42) hx hb dX7_cover_90 (by decide) ?_
      exact ih _ _ _ _ _ _ h hP hS (lv_sub hl [1, 2, 0] rfl) hK93
set_option maxRecDepth 100000 in
set_option maxHeartbeats 4000000 in
theorem wM_cover_J163 {p : Program} {l : Launch} {e : Env} {s : State} {m : MethodId} {args : Array Value} {below : List Frame} {meth : Method} {c : Code} {D : va_G} {κ : Nat → ClassId} {ρ : Nat → Nat} (C : MC p m c cX7_cover 8 s args wsX7_cover D κ) (hr : meth.sig.returnType = (some .int)) (hlk : meth.locks = false) (hD : DM (AM ρ s.heap.size) ρ) {N : Nat} {q : Int32 × MSt} {K104 : MSt → Int32 → Int32 → Option (Int32 × MSt)} : ∀ (σ : MSt) (x2 : Int32) (x3 : Int32) (y0 : Int32) (H : Heap) (locs : List Loc) (ls : Array Slot), fM_cover_J163 N K104 σ x2 x3 y0 = some q → va_P D vwCl (cellsM κ ρ σ) H → va_S (AM ρ s.heap.size) s.heap H locs → lv_has ls 8 [(0, .ref (ρ 40)), (2, .int x2), (3, .int x3)] → (∀ (σ : MSt) (x2 : Int32) (x3 : Int32) (H : Heap) (locs : List Loc) (ls : Array Slot), K104 σ x2 x3 = some q → va_P D vwCl (cellsM κ ρ σ) H → va_S (AM ρ s.heap.size) s.heap H locs → lv_has ls 8 [(0, .ref (ρ 40)), (2, .int x2), (3, .int x3)] → W p l e ({ frames := 6, cells := 0, slots := 0, locals := 151 } : Room) s m args below meth c H locs 0 0 (MQ below (QM D κ ρ s.heap.size q.2 (some (.int q.1))) args s 0 0 (AM ρ s.heap.size)) (F0 m 104 ls [])) → W p l e ({ frames := 6, cells := 0, slots := 0, locals := 151 } : Room) s m args below meth c H locs 0 0 (MQ below (QM D κ ρ s.heap.size q.2 (some (.int q.1))) args s 0 0 (AM ρ s.heap.size)) (F0 m 163 ls [.int y0]) := by
  have hx := C.1.1
  have hb := C.1.2.1
  have hts := C.1.2.2.2.2
  have hown := C.1.2.2.2.1
  intro σ x2 x3 y0 H locs ls h hP hS hl hK104
  unfold fM_cover_J163 at h
  refine lv_istore (lv' := [(7, .int y0), (0, .ref (ρ 40)), (2, .int x2), (3, .int x3)]) hx hb dX7_cover_163 hl (by decide) rfl (fun ls hl => ?_)
  refine lv_iload hx hb dX7_cover_165 (lv_at hl 0 rfl) ?_
  refine lv_if_eq (tgt := 180) hx hb dX7_cover_167 (by decide) (fun c_167 => ?_) (fun c_167 => ?_)
  · have h := zz_pos c_167 h
    refine lv_iinc (v := (x3 + 1)) (lv' := [(3, .int (x3 + 1)), (7, .int y0), (0, .ref (ρ 40)), (2, .int x2)]) hx hb dX7_cover_180 hl (k := 3) rfl rfl (by decide) rfl (fun ls hl => ?_)
    refine lv_goto (tgt := 104) hx hb dX7_cover_183 (by decide) ?_
    exact hK104 _ _ _ _ _ _ h hP hS (lv_sub hl [2, 3, 0] rfl)
  · have h := zz_neg c_167 h
    refine lv_aload_n hx hb dX7_cover_170 rfl (lv_at hl 1 rfl) ?_
    refine lv_iload_n hx hb dX7_cover_171 rfl (lv_at hl 3 rfl) ?_
    obtain ⟨r_172, e_172, h⟩ := bnd_of h
    refine callP (W.runV (As := [.int x3]) C.1 (cM_isEnough e_172) (cwV 1 hts gX7_cover_X7_isEnough rfl rfl rfl (by decide +kernel) ⟨by decide, by decide⟩) (mPreR C.2 hP _) rfl rfl hl.1 rfl (lv_room (Nat.le_of_ble_eq_true rfl)) dX7_cover_172 ⟨Nat.zero_le _, Nat.zero_le _⟩) ?_
    refine lv_if_eq (tgt := 180) hx hb dX7_cover_175 (by decide) (fun c_175 => ?_) (fun c_175 => ?_)
    · have h := zz_pos c_175 h
      refine lv_iinc (v := (x3 + 1)) (lv' := [(3, .int (x3 + 1)), (7, .int y0), (0, .ref (ρ 40)), (2, .int x2)]) hx hb dX7_cover_180 hl (k := 3) rfl rfl (by decide) rfl (fun ls hl => ?_)
      refine lv_goto (tgt := 104) hx hb dX7_cover_183 (by decide) ?_
      exact hK104 _ _ _ _ _ _ h hP hS (lv_sub hl [2, 3, 0] rfl)
    · have h := zz_neg c_175 h
      refine lv_iload_n hx hb dX7_cover_178 rfl (lv_at hl 3 rfl) ?_
      refine lv_istore_n (lv' := [(2, .int x3), (7, .int y0), (0, .ref (ρ 40)), (3, .int x3)]) hx hb dX7_cover_179 rfl hl (by decide) rfl (fun ls hl => ?_)
      refine lv_iinc (v := (x3 + 1)) (lv' := [(3, .int (x3 + 1)), (2, .int x3), (7, .int y0), (0, .ref (ρ 40))]) hx hb dX7_cover_180 hl (k := 3) rfl rfl (by decide) rfl (fun ls hl => ?_)
      refine lv_goto (tgt := 104) hx hb dX7_cover_183 (by decide) ?_
      exact hK104 _ _ _ _ _ _ h hP hS (lv_sub hl [3, 1, 0] rfl)
set_option maxRecDepth 100000 in
set_option maxHeartbeats 4000000 in
theorem wM_cover_J158 {p : Program} {l : Launch} {e : Env} {s : State} {m : MethodId} {args : Array Value} {below : List Frame} {meth : Method} {c : Code} {D : va_G} {κ : Nat → ClassId} {ρ : Nat → Nat} (C : MC p m c cX7_cover 8 s args wsX7_cover D κ) (hr : meth.sig.returnType = (some .int)) (hlk : meth.locks = false) (hD : DM (AM ρ s.heap.size) ρ) {N : Nat} {q : Int32 × MSt} {K104 : MSt → Int32 → Int32 → Option (Int32 × MSt)} : ∀ (σ : MSt) (x2 : Int32) (x3 : Int32) (H : Heap) (locs : List Loc) (ls : Array Slot), fM_cover_J158 N K104 σ x2 x3 = some q → va_P D vwCl (cellsM κ ρ σ) H → va_S (AM ρ s.heap.size) s.heap H locs → lv_has ls 8 [(0, .ref (ρ 40)), (2, .int x2), (3, .int x3)] → (∀ (σ : MSt) (x2 : Int32) (x3 : Int32) (H : Heap) (locs : List Loc) (ls : Array Slot), K104 σ x2 x3 = some q → va_P D vwCl (cellsM κ ρ σ) H → va_S (AM ρ s.heap.size) s.heap H locs → lv_has ls 8 [(0, .ref (ρ 40)), (2, .int x2), (3, .int x3)] → W p l e ({ frames := 6, cells := 0, slots := 0, locals := 151 } : Room) s m args below meth c H locs 0 0 (MQ below (QM D κ ρ s.heap.size q.2 (some (.int q.1))) args s 0 0 (AM ρ s.heap.size)) (F0 m 104 ls [])) → W p l e ({ frames := 6, cells := 0, slots := 0, locals := 151 } : Room) s m args below meth c H locs 0 0 (MQ below (QM D κ ρ s.heap.size q.2 (some (.int q.1))) args s 0 0 (AM ρ s.heap.size)) (F0 m 158 ls []) := by
  have hx := C.1.1
  have hb := C.1.2.1
  have hts := C.1.2.2.2.2
  have hown := C.1.2.2.2.1
  intro σ x2 x3 H locs ls h hP hS hl hK104
  unfold fM_cover_J158 at h
  refine lv_iconst (v := (1 : Int32)) hx hb dX7_cover_158 (by decide) ?_
  refine lv_goto (tgt := 163) hx hb dX7_cover_159 (by decide) ?_
  refine wM_cover_J163 C hr hlk hD _ _ _ _ _ _ _ h hP hS (lv_sub hl [0, 1, 2] rfl) ?_
  intro σ x2 x3 H locs ls h hP hS hl
  exact hK104 _ _ _ _ _ _ h hP hS (lv_sub hl [0, 1, 2] rfl)
set_option maxRecDepth 100000 in
set_option maxHeartbeats 4000000 in
theorem wM_cover_J162 {p : Program} {l : Launch} {e : Env} {s : State} {m : MethodId} {args : Array Value} {below : List Frame} {meth : Method} {c : Code} {D : va_G} {κ : Nat → ClassId} {ρ : Nat → Nat} (C : MC p m c cX7_cover 8 s args wsX7_cover D κ) (hr : meth.sig.returnType = (some .int)) (hlk : meth.locks = false) (hD : DM (AM ρ s.heap.size) ρ) {N : Nat} {q : Int32 × MSt} {K104 : MSt → Int32 → Int32 → Option (Int32 × MSt)} : ∀ (σ : MSt) (x2 : Int32) (x3 : Int32) (H : Heap) (locs : List Loc) (ls : Array Slot), fM_cover_J162 N K104 σ x2 x3 = some q → va_P D vwCl (cellsM κ ρ σ) H → va_S (AM ρ s.heap.size) s.heap H locs → lv_has ls 8 [(0, .ref (ρ 40)), (2, .int x2), (3, .int x3)] → (∀ (σ : MSt) (x2 : Int32) (x3 : Int32) (H : Heap) (locs : List Loc) (ls : Array Slot), K104 σ x2 x3 = some q → va_P D vwCl (cellsM κ ρ σ) H → va_S (AM ρ s.heap.size) s.heap H locs → lv_has ls 8 [(0, .ref (ρ 40)), (2, .int x2), (3, .int x3)] → W p l e ({ frames := 6, cells := 0, slots := 0, locals := 151 } : Room) s m args below meth c H locs 0 0 (MQ below (QM D κ ρ s.heap.size q.2 (some (.int q.1))) args s 0 0 (AM ρ s.heap.size)) (F0 m 104 ls [])) → W p l e ({ frames := 6, cells := 0, slots := 0, locals := 151 } : Room) s m args below meth c H locs 0 0 (MQ below (QM D κ ρ s.heap.size q.2 (some (.int q.1))) args s 0 0 (AM ρ s.heap.size)) (F0 m 162 ls []) := by
  have hx := C.1.1
  have hb := C.1.2.1
  have hts := C.1.2.2.2.2
  have hown := C.1.2.2.2.1
  intro σ x2 x3 H locs ls h hP hS hl hK104
  unfold fM_cover_J162 at h
  refine lv_iconst (v := (0 : Int32)) hx hb dX7_cover_162 (by decide) ?_
  refine wM_cover_J163 C hr hlk hD _ _ _ _ _ _ _ h hP hS (lv_sub hl [0, 1, 2] rfl) ?_
  intro σ x2 x3 H locs ls h hP hS hl
  exact hK104 _ _ _ _ _ _ h hP hS (lv_sub hl [0, 1, 2] rfl)
set_option maxRecDepth 100000 in
set_option maxHeartbeats 4000000 in
theorem wM_cover_L104 {p : Program} {l : Launch} {e : Env} {s : State} {m : MethodId} {args : Array Value} {below : List Frame} {meth : Method} {c : Code} {D : va_G} {κ : Nat → ClassId} {ρ : Nat → Nat} (C : MC p m c cX7_cover 8 s args wsX7_cover D κ) (hr : meth.sig.returnType = (some .int)) (hlk : meth.locks = false) (hD : DM (AM ρ s.heap.size) ρ) {N : Nat} {q : Int32 × MSt} : ∀ (n : Nat) (σ : MSt) (x2 : Int32) (x3 : Int32) (H : Heap) (locs : List Loc) (ls : Array Slot), fM_cover_L104 N n σ x2 x3 = some q → va_P D vwCl (cellsM κ ρ σ) H → va_S (AM ρ s.heap.size) s.heap H locs → lv_has ls 8 [(0, .ref (ρ 40)), (2, .int x2), (3, .int x3)] → W p l e ({ frames := 6, cells := 0, slots := 0, locals := 151 } : Room) s m args below meth c H locs 0 0 (MQ below (QM D κ ρ s.heap.size q.2 (some (.int q.1))) args s 0 0 (AM ρ s.heap.size)) (F0 m 104 ls []) := by
  have hx := C.1.1
  have hb := C.1.2.1
  have hts := C.1.2.2.2.2
  have hown := C.1.2.2.2.1
  have k_91 := hts (.fieldLink RX7 91 "PlanCabinetModel" "spans" "I") (by decide +kernel)
  have in_7 : ∀ w ∈ wsX70, w ∈ wsX7_cover := by decide +kernel
  intro n
  induction n with
  | zero =>
    intro σ x2 x3 H locs ls h hP hS hl
    rw [fM_cover_L104] at h
    cases h
  | succ n ih =>
    intro σ x2 x3 H locs ls h hP hS hl
    rw [fM_cover_L104] at h
    refine lv_iload_n hx hb dX7_cover_104 rfl (lv_at hl 2 rfl) ?_
    refine lv_iconst (v := (1 : Int32)) hx hb dX7_cover_105 (by decide) ?_
    refine lv_aload_n hx hb dX7_cover_106 rfl (lv_at hl 0 rfl) ?_
    refine mG_26 C in_7 hP k_91 dX7_cover_107 ?_
    refine lv_ishl hx hb dX7_cover_110 ?_
    refine lv_icmp_ge (tgt := 186) hx hb dX7_cover_111 (by decide) (fun c_111 => ?_) (fun c_111 => ?_)
    · have h := zz_pos c_111 h
      refine lv_iload_n hx hb dX7_cover_186 rfl (lv_at hl 1 rfl) ?_
      exact W.iret hx hb hr (fun t ht hW => ⟨by rw [← some_of h], by rw [ht, ← some_of h]; exact hP, hS.F ht⟩) hS.2.2 dX7_cover_187
    · have h := zz_neg c_111 h
      refine lv_aload_n hx hb dX7_cover_114 rfl (lv_at hl 0 rfl) ?_
      refine lv_iload_n hx hb dX7_cover_115 rfl (lv_at hl 2 rfl) ?_
      obtain ⟨r_116, e_116, h⟩ := bnd_of h
      refine callP (W.runV (As := [.int x3]) C.1 (cM_bits e_116) (cwV 1 hts gX7_cover_X7_bits rfl rfl rfl (by decide +kernel) ⟨by decide, by decide⟩) (mPreR C.2 hP _) rfl rfl hl.1 rfl (lv_room (Nat.le_of_ble_eq_true rfl)) dX7_cover_116 ⟨Nat.zero_le _, Nat.zero_le _⟩) ?_
      refine lv_istore (lv' := [(4, .int r_116), (0, .ref (ρ 40)), (2, .int x2), (3, .int x3)]) hx hb dX7_cover_119 hl (by decide) rfl (fun ls hl => ?_)
      refine lv_aload_n hx hb dX7_cover_121 rfl (lv_at hl 1 rfl) ?_
      refine lv_iload_n hx hb dX7_cover_122 rfl (lv_at hl 2 rfl) ?_
      obtain ⟨r_123, e_123, h⟩ := bnd_of h
      refine callP (W.runV (As := [.int x2]) C.1 (cM_bits e_123) (cwV 1 hts gX7_cover_X7_bits rfl rfl rfl (by decide +kernel) ⟨by decide, by decide⟩) (mPreR C.2 hP _) rfl rfl hl.1 rfl (lv_room (Nat.le_of_ble_eq_true rfl)) dX7_cover_123 ⟨Nat.zero_le _, Nat.zero_le _⟩) ?_
      refine lv_istore (lv' := [(5, .int r_123), (4, .int r_116), (0, .ref (ρ 40)), (2, .int x2), (3, .int x3)]) hx hb dX7_cover_126 hl (by decide) rfl (fun ls hl => ?_)
      refine lv_iload_n hx hb dX7_cover_128 rfl (lv_at hl 4 rfl) ?_
      refine lv_iload_n hx hb dX7_cover_129 rfl (lv_at hl 3 rfl) ?_
      refine lv_ixor hx hb dX7_cover_130 ?_
      refine lv_istore (lv' := [(6, .int (x3 ^^^ x2)), (5, .int r_123), (4, .int r_116), (0, .ref (ρ 40)), (2, .int x2), (3, .int x3)]) hx hb dX7_cover_131 hl (by decide) rfl (fun ls hl => ?_)
      refine lv_iload hx hb dX7_cover_133 (lv_at hl 2 rfl) ?_
      refine lv_iload hx hb dX7_cover_135 (lv_at hl 1 rfl) ?_
      refine lv_icmp_lt (tgt := 158) hx hb dX7_cover_137 (by decide) (fun c_137 => ?_) (fun c_137 => ?_)
      · have h := zz_pos c_137 h
        refine wM_cover_J158 C hr hlk hD _ _ _ _ _ _ h hP hS (lv_sub hl [3, 4, 5] rfl) ?_
        intro σ x2 x3 H locs ls h hP hS hl
        exact ih _ _ _ _ _ _ h hP hS (lv_sub hl [0, 1, 2] rfl)
      · have h := zz_neg c_137 h
        refine lv_iload hx hb dX7_cover_140 (lv_at hl 2 rfl) ?_
        refine lv_iload hx hb dX7_cover_142 (lv_at hl 1 rfl) ?_
        refine lv_icmp_ne (tgt := 162) hx hb dX7_cover_144 (by decide) (fun c_144 => ?_) (fun c_144 => ?_)
        · have h := zz_neg c_144 h
          refine wM_cover_J162 C hr hlk hD _ _ _ _ _ _ h hP hS (lv_sub hl [3, 4, 5] rfl) ?_
          intro σ x2 x3 H locs ls h hP hS hl
          exact ih _ _ _ _ _ _ h hP hS (lv_sub hl [0, 1, 2] rfl)
        · have h := zz_pos c_144 h
          refine lv_iload_n hx hb dX7_cover_147 rfl (lv_at hl 5 rfl) ?_
          refine lv_iload hx hb dX7_cover_148 (lv_at hl 0 rfl) ?_
          refine lv_iand hx hb dX7_cover_150 ?_
          refine lv_iload hx hb dX7_cover_151 (lv_at hl 0 rfl) ?_
          refine lv_ineg hx hb dX7_cover_153 ?_
          refine lv_iand hx hb dX7_cover_154 ?_
          refine lv_if_eq (tgt := 162) hx hb dX7_cover_155 (by decide) (fun c_155 => ?_) (fun c_155 => ?_)
          · have h := zz_pos c_155 h
            refine wM_cover_J162 C hr hlk hD _ _ _ _ _ _ h hP hS (lv_sub hl [3, 4, 5] rfl) ?_
            intro σ x2 x3 H locs ls h hP hS hl
            exact ih _ _ _ _ _ _ h hP hS (lv_sub hl [0, 1, 2] rfl)
          · have h := zz_neg c_155 h
            refine wM_cover_J158 C hr hlk hD _ _ _ _ _ _ h hP hS (lv_sub hl [3, 4, 5] rfl) ?_
            intro σ x2 x3 H locs ls h hP hS hl
            exact ih _ _ _ _ _ _ h hP hS (lv_sub hl [0, 1, 2] rfl)
set_option maxRecDepth 100000 in
set_option maxHeartbeats 4000000 in
theorem cM_cover {l : Launch} {D : va_G} {κ : Nat → ClassId} {ρ : Nat → Nat} {sz : Nat} {N : Nat} {σ : MSt} {x1 : Int32} {q : Int32 × MSt} (h : fM_cover N σ x1 = some q) : Met l yX7_cover wsX7_cover ({ frames := 6, cells := 0, slots := 0, locals := 151 } : Room) (va_Pc [.ref (ρ 40), .int x1] (PM D κ ρ sz σ)) (QM D κ ρ sz q.2 (some (.int q.1))) 0 0 (AM ρ sz) := by
  refine mMetM (ret := (some .int)) (by decide) rfl rfl (Nat.le_of_ble_eq_true rfl) ?_
  intro p e s m below meth c ls C hr hlk hD hP hl
  have hS : va_S (AM ρ s.heap.size) s.heap s.heap [] := va_S.rf
  have hl : lv_has ls 8 [(0, .ref (ρ 40)), (1, .int x1)] := hl
  unfold fM_cover at h
  have hx := C.1.1
  have hb := C.1.2.1
  have hts := C.1.2.2.2.2
  have hown := C.1.2.2.2.1
  have k_91 := hts (.fieldLink RX7 91 "PlanCabinetModel" "spans" "I") (by decide +kernel)
  have in_7 : ∀ w ∈ wsX70, w ∈ wsX7_cover := by decide +kernel
  refine lv_iload_n hx hb dX7_cover_0 rfl (lv_at hl 1 rfl) ?_
  refine lv_if_lt (tgt := 11) hx hb dX7_cover_1 (by decide) (fun c_1 => ?_) (fun c_1 => ?_)
  · have h := zz_pos c_1 h
    refine lv_bipush (v := (-2 : Int32)) hx hb dX7_cover_11 (by decide) ?_
    exact W.iret hx hb hr (fun t ht hW => ⟨by rw [← some_of h], by rw [ht, ← some_of h]; exact hP, hS.F ht⟩) hS.2.2 dX7_cover_13
  · have h := zz_neg c_1 h
    refine lv_iload_n hx hb dX7_cover_4 rfl (lv_at hl 1 rfl) ?_
    refine lv_sipush (v := (10000 : Int32)) hx hb dX7_cover_5 (by decide) ?_
    refine lv_icmp_le (tgt := 14) hx hb dX7_cover_8 (by decide) (fun c_8 => ?_) (fun c_8 => ?_)
    · have h := zz_pos c_8 h
      refine lv_aload_n hx hb dX7_cover_14 rfl (lv_at hl 0 rfl) ?_
      obtain ⟨r_15, e_15, h⟩ := bnd_of h
      refine callP (W.runV (As := []) C.1 (cM_isWhole e_15) (cwV 0 hts gX7_cover_X7_isWhole rfl rfl rfl (by decide +kernel) ⟨by decide, by decide⟩) (mPreR C.2 hP _) rfl rfl hl.1 rfl (lv_room (Nat.le_of_ble_eq_true rfl)) dX7_cover_15 ⟨Nat.zero_le _, Nat.zero_le _⟩) ?_
      refine lv_if_ne (tgt := 24) hx hb dX7_cover_18 (by decide) (fun c_18 => ?_) (fun c_18 => ?_)
      · have h := zz_neg c_18 h
        refine lv_aload_n hx hb dX7_cover_24 rfl (lv_at hl 0 rfl) ?_
        obtain ⟨r_25, e_25, h⟩ := bnd_of h
        refine mCall (va_runV (As := []) C.1 (cM_span e_25) (cwV 0 hts gX7_cover_X7_span rfl rfl rfl (by decide +kernel) ⟨by decide, by decide⟩) (mPreM C.2 hP hD _) rfl rfl hl.1 rfl (lv_room (Nat.le_of_ble_eq_true rfl)) dX7_cover_25 ⟨Nat.zero_le _, Nat.zero_le _⟩) hS hD (fun _ h => Or.inr h) (fun H locs hP hS => ?_)
        refine lv_aload_n hx hb dX7_cover_28 rfl (lv_at hl 0 rfl) ?_
        refine mG_26 C in_7 hP k_91 dX7_cover_29 ?_
        refine lv_bipush (v := (16 : Int32)) hx hb dX7_cover_32 (by decide) ?_
        refine lv_icmp_le (tgt := 40) hx hb dX7_cover_34 (by decide) (fun c_34 => ?_) (fun c_34 => ?_)
        · have h := zz_pos c_34 h
          refine lv_iconst (v := (0 : Int32)) hx hb dX7_cover_40 (by decide) ?_
          refine lv_istore_n (lv' := [(2, .int (0 : Int32)), (0, .ref (ρ 40)), (1, .int x1)]) hx hb dX7_cover_41 rfl hl (by decide) rfl (fun ls hl => ?_)
          refine wM_cover_L42 C hr hlk hD _ _ _ _ _ _ _ h hP hS (lv_sub hl [1, 2, 0] rfl) ?_
          intro σ H locs ls h hP hS hl
          refine lv_iconst (v := (1 : Int32)) hx hb dX7_cover_93 (by decide) ?_
          refine lv_aload_n hx hb dX7_cover_94 rfl (lv_at hl 0 rfl) ?_
          refine mG_26 C in_7 hP k_91 dX7_cover_95 ?_
          refine lv_ishl hx hb dX7_cover_98 ?_
          refine lv_iconst (v := (1 : Int32)) hx hb dX7_cover_99 (by decide) ?_
          refine lv_isub hx hb dX7_cover_100 ?_
          refine lv_istore_n (lv' := [(2, .int (((1 : Int32) <<< ((σ.1 26) &&& 31)) - (1 : Int32))), (0, .ref (ρ 40))]) hx hb dX7_cover_101 rfl hl (by decide) rfl (fun ls hl => ?_)
          refine lv_iconst (v := (1 : Int32)) hx hb dX7_cover_102 (by decide) ?_
          refine lv_istore_n (lv' := [(3, .int (1 : Int32)), (2, .int (((1 : Int32) <<< ((σ.1 26) &&& 31)) - (1 : Int32))), (0, .ref (ρ 40))]) hx hb dX7_cover_103 rfl hl (by decide) rfl (fun ls hl => ?_)
          exact wM_cover_L104 C hr hlk hD _ _ _ _ _ _ _ h hP hS (lv_sub hl [2, 1, 0] rfl)
        · have h := zz_neg c_34 h
          refine lv_bipush (v := (-3 : Int32)) hx hb dX7_cover_37 (by decide) ?_
          exact W.iret hx hb hr (fun t ht hW => ⟨by rw [← some_of h], by rw [ht, ← some_of h]; exact hP, hS.F ht⟩) hS.2.2 dX7_cover_39
      · have h := zz_pos c_18 h
        refine lv_bipush (v := (-3 : Int32)) hx hb dX7_cover_21 (by decide) ?_
        exact W.iret hx hb hr (fun t ht hW => ⟨by rw [← some_of h], by rw [ht, ← some_of h]; exact hP, hS.F ht⟩) hS.2.2 dX7_cover_23
    · have h := zz_neg c_8 h
      refine lv_bipush (v := (-2 : Int32)) hx hb dX7_cover_11 (by decide) ?_
      exact W.iret hx hb hr (fun t ht hW => ⟨by rw [← some_of h], by rw [ht, ← some_of h]; exact hP, hS.F ht⟩) hS.2.2 dX7_cover_13
def fM_spot (N : Nat) (σ : MSt) (x1 : Int32) (x2 : Int32) : Option (Int32) := some (((82944 : Int32) * x1) + ((4 : Int32) * x2))
set_option maxRecDepth 100000 in
set_option maxHeartbeats 4000000 in
theorem cM_spot {l : Launch} {D : va_G} {κ : Nat → ClassId} {ρ : Nat → Nat} {N : Nat} {σ : MSt} {x1 : Int32} {x2 : Int32} {r : Int32} (h : fM_spot N σ x1 x2 = some r) : Met l yX7_spot wsX7_spot ({ frames := 0, cells := 0, slots := 0, locals := 0 } : Room) (va_Pc [.ref (ρ 40), .int x1, .int x2] (PR D κ ρ σ)) (PU (some (.int r))) 0 0 (fun _ => False) := by
  refine mMetR (ret := (some .int)) (by decide) rfl rfl (Nat.le_of_ble_eq_true rfl) ?_
  intro p e s m below meth c ls C hr hlk hP hl
  have hl : lv_has ls 3 [(0, .ref (ρ 40)), (1, .int x1), (2, .int x2)] := hl
  unfold fM_spot at h
  have hx := C.1.1
  have hb := C.1.2.1
  have hts := C.1.2.2.2.2
  have hown := C.1.2.2.2.1
  have k_120 := hts (.constant RX7 120 (82944)) (by decide +kernel)
  refine lv_ldc hx hb hown k_120 dX7_spot_0 ?_
  refine lv_iload_n hx hb dX7_spot_2 rfl (lv_at hl 1 rfl) ?_
  refine lv_imul hx hb dX7_spot_3 ?_
  refine lv_iconst (v := (4 : Int32)) hx hb dX7_spot_4 (by decide) ?_
  refine lv_iload_n hx hb dX7_spot_5 rfl (lv_at hl 2 rfl) ?_
  refine lv_imul hx hb dX7_spot_6 ?_
  refine lv_iadd hx hb dX7_spot_7 ?_
  exact W.iret hx hb hr (fun t ht hW => ⟨by rw [some_of h], ht⟩) (fun _ h => by cases h) dX7_spot_8
def fM_readAll_L52 (N : Nat) (K84 : MSt → Int32 → Int32 → Option (MSt)) : Nat → MSt → Int32 → Int32 → Int32 → Int32 → Option (MSt)
  | 0, _, _, _, _, _ => none
  | n + 1, σ, x1, x2, x3, x4 => (if (4 : Int32) ≤ x4 then K84 σ x1 x2 else (if x4 = x1 then chk (x3 + x4) 414720 (fM_readAll_L52 N K84 n (sA σ 29 (x3 + x4).toNatClampNeg x2) x1 x2 x3 (x4 + 1)) else chk (x3 + x4) 414720 (fM_readAll_L52 N K84 n (sA σ 29 (x3 + x4).toNatClampNeg (-1 : Int32)) x1 x2 x3 (x4 + 1))))
def fM_readAll_L29 (N : Nat) (K90 : MSt → Int32 → Option (MSt)) : Nat → MSt → Int32 → Int32 → Option (MSt)
  | 0, _, _, _ => none
  | n + 1, σ, x1, x2 => chk x1 4 ((if (σ.2.2.1 4 x1.toNatClampNeg) ≤ x2 then K90 σ x1 else (fM_spot N σ (σ.1 36) x2).bind fun r_45 => fM_readAll_L52 N (fun (σ : MSt) (x1 : Int32) (x2 : Int32) => fM_readAll_L29 N K90 n σ x1 (x2 + 1)) N σ x1 x2 r_45 (0 : Int32)))
def fM_readAll (N : Nat) (σ : MSt) (x1 : Int32) : Option (MSt) := chk x1 4 (chk (σ.1 36) 5 (chk ((sA σ 30 (σ.1 36).toNatClampNeg (σ.2.2.1 4 x1.toNatClampNeg)).1 36) 5 (fM_readAll_L29 N (fun (σ : MSt) (x1 : Int32) => chk x1 4 (some (sI (sI σ 37 ((σ.1 37) + (σ.2.2.1 4 x1.toNatClampNeg))) 36 (((sI σ 37 ((σ.1 37) + (σ.2.2.1 4 x1.toNatClampNeg))).1 36) + (1 : Int32))))) N (sA (sA σ 30 (σ.1 36).toNatClampNeg (σ.2.2.1 4 x1.toNatClampNeg)) 31 ((sA σ 30 (σ.1 36).toNatClampNeg (σ.2.2.1 4 x1.toNatClampNeg)).1 36).toNatClampNeg ((1 : Int32) <<< (x1 &&& 31))) x1 (0 : Int32))))
set_option maxRecDepth 100000 in
set_option maxHeartbeats 4000000 in
theorem wM_readAll_L52 {p : Program} {l : Launch} {e : Env} {s : State} {m : MethodId} {args : Array Value} {below : List Frame} {meth : Method} {c : Code} {D : va_G} {κ : Nat → ClassId} {ρ : Nat → Nat} (C : MC p m c cX7_readAll 5 s args wsX7_readAll D κ) (hr : meth.sig.returnType = none) (hlk : meth.locks = false) (hD : DM (AM ρ s.heap.size) ρ) {N : Nat} {q : MSt} {K84 : MSt → Int32 → Int32 → Option (MSt)} : ∀ (n : Nat) (σ : MSt) (x1 : Int32) (x2 : Int32) (x3 : Int32) (x4 : Int32) (H : Heap) (locs : List Loc) (ls : Array Slot), fM_readAll_L52 N K84 n σ x1 x2 x3 x4 = some q → va_P D vwCl (cellsM κ ρ σ) H → va_S (AM ρ s.heap.size) s.heap H locs → lv_has ls 5 [(0, .ref (ρ 40)), (1, .int x1), (2, .int x2), (3, .int x3), (4, .int x4)] → (∀ (σ : MSt) (x1 : Int32) (x2 : Int32) (H : Heap) (locs : List Loc) (ls : Array Slot), K84 σ x1 x2 = some q → va_P D vwCl (cellsM κ ρ σ) H → va_S (AM ρ s.heap.size) s.heap H locs → lv_has ls 5 [(0, .ref (ρ 40)), (1, .int x1), (2, .int x2)] → W p l e ({ frames := 1, cells := 0, slots := 0, locals := 22 } : Room) s m args below meth c H locs 0 0 (MQ below (QM D κ ρ s.heap.size q none) args s 0 0 (AM ρ s.heap.size)) (F0 m 84 ls [])) → W p l e ({ frames := 1, cells := 0, slots := 0, locals := 22 } : Room) s m args below meth c H locs 0 0 (MQ below (QM D κ ρ s.heap.size q none) args s 0 0 (AM ρ s.heap.size)) (F0 m 52 ls []) := by
  have hx := C.1.1
  have hb := C.1.2.1
  have hts := C.1.2.2.2.2
  have hown := C.1.2.2.2.1
  have k_102 := hts (.fieldLink RX7 102 "PlanCabinetModel" "lists" "[I") (by decide +kernel)
  have in_7 : ∀ w ∈ wsX70, w ∈ wsX7_readAll := by decide +kernel
  intro n
  induction n with
  | zero =>
    intro σ x1 x2 x3 x4 H locs ls h hP hS hl hK84
    rw [fM_readAll_L52] at h
    cases h
  | succ n ih =>
    intro σ x1 x2 x3 x4 H locs ls h hP hS hl hK84
    rw [fM_readAll_L52] at h
    refine lv_iload hx hb dX7_readAll_52 (lv_at hl 4 rfl) ?_
    refine lv_iconst (v := (4 : Int32)) hx hb dX7_readAll_54 (by decide) ?_
    refine lv_icmp_ge (tgt := 84) hx hb dX7_readAll_55 (by decide) (fun c_55 => ?_) (fun c_55 => ?_)
    · have h := zz_pos c_55 h
      exact hK84 _ _ _ _ _ _ h hP hS (lv_sub hl [0, 1, 2] rfl)
    · have h := zz_neg c_55 h
      refine lv_aload_n hx hb dX7_readAll_58 rfl (lv_at hl 0 rfl) ?_
      refine mG_29 C in_7 hP k_102 dX7_readAll_59 ?_
      refine lv_iload_n hx hb dX7_readAll_62 rfl (lv_at hl 3 rfl) ?_
      refine lv_iload hx hb dX7_readAll_63 (lv_at hl 4 rfl) ?_
      refine lv_iadd hx hb dX7_readAll_65 ?_
      refine lv_iload hx hb dX7_readAll_66 (lv_at hl 4 rfl) ?_
      refine lv_iload_n hx hb dX7_readAll_68 rfl (lv_at hl 1 rfl) ?_
      refine lv_icmp_ne (tgt := 76) hx hb dX7_readAll_69 (by decide) (fun c_69 => ?_) (fun c_69 => ?_)
      · have h := zz_neg c_69 h
        refine lv_iconst (v := (-1 : Int32)) hx hb dX7_readAll_76 (by decide) ?_
        obtain ⟨b_77, h⟩ := chk_of h
        refine mS_29 C hP hD hS b_77 dX7_readAll_77 (fun H locs hP hS => ?_)
        refine lv_iinc (v := (x4 + 1)) (lv' := [(4, .int (x4 + 1)), (0, .ref (ρ 40)), (1, .int x1), (2, .int x2), (3, .int x3)]) hx hb dX7_readAll_78 hl (k := 4) rfl rfl (by decide) rfl (fun ls hl => ?_)
        refine lv_goto (tgt := 52) hx hb dX7_readAll_81 (by decide) ?_
        exact ih _ _ _ _ _ _ _ _ h hP hS (lv_sub hl [1, 2, 3, 4, 0] rfl) hK84
      · have h := zz_pos c_69 h
        refine lv_iload_n hx hb dX7_readAll_72 rfl (lv_at hl 2 rfl) ?_
        refine lv_goto (tgt := 77) hx hb dX7_readAll_73 (by decide) ?_
        obtain ⟨b_77, h⟩ := chk_of h
        refine mS_29 C hP hD hS b_77 dX7_readAll_77 (fun H locs hP hS => ?_)
        refine lv_iinc (v := (x4 + 1)) (lv' := [(4, .int (x4 + 1)), (0, .ref (ρ 40)), (1, .int x1), (2, .int x2), (3, .int x3)]) hx hb dX7_readAll_78 hl (k := 4) rfl rfl (by decide) rfl (fun ls hl => ?_)
        refine lv_goto (tgt := 52) hx hb dX7_readAll_81 (by decide) ?_
        exact ih _ _ _ _ _ _ _ _ h hP hS (lv_sub hl [1, 2, 3, 4, 0] rfl) hK84
set_option maxRecDepth 100000 in
set_option maxHeartbeats 4000000 in
theorem wM_readAll_L29 {p : Program} {l : Launch} {e : Env} {s : State} {m : MethodId} {args : Array Value} {below : List Frame} {meth : Method} {c : Code} {D : va_G} {κ : Nat → ClassId} {ρ : Nat → Nat} (C : MC p m c cX7_readAll 5 s args wsX7_readAll D κ) (hr : meth.sig.returnType = none) (hlk : meth.locks = false) (hD : DM (AM ρ s.heap.size) ρ) {N : Nat} {q : MSt} {K90 : MSt → Int32 → Option (MSt)} : ∀ (n : Nat) (σ : MSt) (x1 : Int32) (x2 : Int32) (H : Heap) (locs : List Loc) (ls : Array Slot), fM_readAll_L29 N K90 n σ x1 x2 = some q → va_P D vwCl (cellsM κ ρ σ) H → va_S (AM ρ s.heap.size) s.heap H locs → lv_has ls 5 [(0, .ref (ρ 40)), (1, .int x1), (2, .int x2)] → (∀ (σ : MSt) (x1 : Int32) (H : Heap) (locs : List Loc) (ls : Array Slot), K90 σ x1 = some q → va_P D vwCl (cellsM κ ρ σ) H → va_S (AM ρ s.heap.size) s.heap H locs → lv_has ls 5 [(0, .ref (ρ 40)), (1, .int x1)] → W p l e ({ frames := 1, cells := 0, slots := 0, locals := 22 } : Room) s m args below meth c H locs 0 0 (MQ below (QM D κ ρ s.heap.size q none) args s 0 0 (AM ρ s.heap.size)) (F0 m 90 ls [])) → W p l e ({ frames := 1, cells := 0, slots := 0, locals := 22 } : Room) s m args below meth c H locs 0 0 (MQ below (QM D κ ρ s.heap.size q none) args s 0 0 (AM ρ s.heap.size)) (F0 m 29 ls []) := by
  have hx := C.1.1
  have hb := C.1.2.1
  have hts := C.1.2.2.2.2
  have hown := C.1.2.2.2.1
  have k_22 := hts (.fieldLink RX7 22 "PlanCabinetModel" "rows" "[I") (by decide +kernel)
  have k_124 := hts (.fieldLink RX7 124 "PlanCabinetModel" "pile" "I") (by decide +kernel)
  have in_7 : ∀ w ∈ wsX70, w ∈ wsX7_readAll := by decide +kernel
  intro n
  induction n with
  | zero =>
    intro σ x1 x2 H locs ls h hP hS hl hK90
    rw [fM_readAll_L29] at h
    cases h
  | succ n ih =>
    intro σ x1 x2 H locs ls h hP hS hl hK90
    rw [fM_readAll_L29] at h
    refine lv_iload_n hx hb dX7_readAll_29 rfl (lv_at hl 2 rfl) ?_
    refine lv_aload_n hx hb dX7_readAll_30 rfl (lv_at hl 0 rfl) ?_
    refine mG_4 C in_7 hP k_22 dX7_readAll_31 ?_
    refine lv_iload_n hx hb dX7_readAll_34 rfl (lv_at hl 1 rfl) ?_
    obtain ⟨b_35, h⟩ := chk_of h
    refine mL_4 C hP b_35 dX7_readAll_35 ?_
    refine lv_icmp_ge (tgt := 90) hx hb dX7_readAll_36 (by decide) (fun c_36 => ?_) (fun c_36 => ?_)
    · have h := zz_pos c_36 h
      exact hK90 _ _ _ _ _ h hP hS (lv_sub hl [0, 1] rfl)
    · have h := zz_neg c_36 h
      refine lv_aload_n hx hb dX7_readAll_39 rfl (lv_at hl 0 rfl) ?_
      refine lv_aload_n hx hb dX7_readAll_40 rfl (lv_at hl 0 rfl) ?_
      refine mG_36 C in_7 hP k_124 dX7_readAll_41 ?_
      refine lv_iload_n hx hb dX7_readAll_44 rfl (lv_at hl 2 rfl) ?_
      obtain ⟨r_45, e_45, h⟩ := bnd_of h
      refine callP (W.runV (As := [.int (σ.1 36), .int x2]) C.1 (cM_spot e_45) (cwV 2 hts gX7_readAll_X7_spot rfl rfl rfl (by decide +kernel) ⟨by decide, by decide⟩) (mPreR C.2 hP _) rfl rfl hl.1 rfl (lv_room (Nat.le_of_ble_eq_true rfl)) dX7_readAll_45 ⟨Nat.zero_le _, Nat.zero_le _⟩) ?_
      refine lv_istore_n (lv' := [(3, .int r_45), (0, .ref (ρ 40)), (1, .int x1), (2, .int x2)]) hx hb dX7_readAll_48 rfl hl (by decide) rfl (fun ls hl => ?_)
      refine lv_iconst (v := (0 : Int32)) hx hb dX7_readAll_49 (by decide) ?_
      refine lv_istore (lv' := [(4, .int (0 : Int32)), (3, .int r_45), (0, .ref (ρ 40)), (1, .int x1), (2, .int x2)]) hx hb dX7_readAll_50 hl (by decide) rfl (fun ls hl => ?_)
      refine wM_readAll_L52 C hr hlk hD _ _ _ _ _ _ _ _ _ h hP hS (lv_sub hl [2, 3, 4, 1, 0] rfl) ?_
      intro σ x1 x2 H locs ls h hP hS hl
      refine lv_iinc (v := (x2 + 1)) (lv' := [(2, .int (x2 + 1)), (0, .ref (ρ 40)), (1, .int x1)]) hx hb dX7_readAll_84 hl (k := 2) rfl rfl (by decide) rfl (fun ls hl => ?_)
      refine lv_goto (tgt := 29) hx hb dX7_readAll_87 (by decide) ?_
      exact ih _ _ _ _ _ _ h hP hS (lv_sub hl [1, 2, 0] rfl) hK90
set_option maxRecDepth 100000 in
set_option maxHeartbeats 4000000 in
theorem cM_readAll {l : Launch} {D : va_G} {κ : Nat → ClassId} {ρ : Nat → Nat} {sz : Nat} {N : Nat} {σ : MSt} {x1 : Int32} {q : MSt} (h : fM_readAll N σ x1 = some q) : Met l yX7_readAll wsX7_readAll ({ frames := 1, cells := 0, slots := 0, locals := 22 } : Room) (va_Pc [.ref (ρ 40), .int x1] (PM D κ ρ sz σ)) (QM D κ ρ sz q none) 0 0 (AM ρ sz) := by
  refine mMetM (ret := none) (by decide) rfl rfl (Nat.le_of_ble_eq_true rfl) ?_
  intro p e s m below meth c ls C hr hlk hD hP hl
  have hS : va_S (AM ρ s.heap.size) s.heap s.heap [] := va_S.rf
  have hl : lv_has ls 5 [(0, .ref (ρ 40)), (1, .int x1)] := hl
  unfold fM_readAll at h
  have hx := C.1.1
  have hb := C.1.2.1
  have hts := C.1.2.2.2.2
  have hown := C.1.2.2.2.1
  have k_22 := hts (.fieldLink RX7 22 "PlanCabinetModel" "rows" "[I") (by decide +kernel)
  have k_105 := hts (.fieldLink RX7 105 "PlanCabinetModel" "many" "[I") (by decide +kernel)
  have k_108 := hts (.fieldLink RX7 108 "PlanCabinetModel" "setOf" "[I") (by decide +kernel)
  have k_124 := hts (.fieldLink RX7 124 "PlanCabinetModel" "pile" "I") (by decide +kernel)
  have k_127 := hts (.fieldLink RX7 127 "PlanCabinetModel" "steps" "I") (by decide +kernel)
  have in_7 : ∀ w ∈ wsX70, w ∈ wsX7_readAll := by decide +kernel
  refine lv_aload_n hx hb dX7_readAll_0 rfl (lv_at hl 0 rfl) ?_
  refine mG_30 C in_7 hP k_105 dX7_readAll_1 ?_
  refine lv_aload_n hx hb dX7_readAll_4 rfl (lv_at hl 0 rfl) ?_
  refine mG_36 C in_7 hP k_124 dX7_readAll_5 ?_
  refine lv_aload_n hx hb dX7_readAll_8 rfl (lv_at hl 0 rfl) ?_
  refine mG_4 C in_7 hP k_22 dX7_readAll_9 ?_
  refine lv_iload_n hx hb dX7_readAll_12 rfl (lv_at hl 1 rfl) ?_
  obtain ⟨b_13, h⟩ := chk_of h
  refine mL_4 C hP b_13 dX7_readAll_13 ?_
  obtain ⟨b_14, h⟩ := chk_of h
  refine mS_30 C hP hD hS b_14 dX7_readAll_14 (fun H locs hP hS => ?_)
  refine lv_aload_n hx hb dX7_readAll_15 rfl (lv_at hl 0 rfl) ?_
  refine mG_31 C in_7 hP k_108 dX7_readAll_16 ?_
  refine lv_aload_n hx hb dX7_readAll_19 rfl (lv_at hl 0 rfl) ?_
  refine mG_36 C in_7 hP k_124 dX7_readAll_20 ?_
  refine lv_iconst (v := (1 : Int32)) hx hb dX7_readAll_23 (by decide) ?_
  refine lv_iload_n hx hb dX7_readAll_24 rfl (lv_at hl 1 rfl) ?_
  refine lv_ishl hx hb dX7_readAll_25 ?_
  obtain ⟨b_26, h⟩ := chk_of h
  refine mS_31 C hP hD hS b_26 dX7_readAll_26 (fun H locs hP hS => ?_)
  refine lv_iconst (v := (0 : Int32)) hx hb dX7_readAll_27 (by decide) ?_
  refine lv_istore_n (lv' := [(2, .int (0 : Int32)), (0, .ref (ρ 40)), (1, .int x1)]) hx hb dX7_readAll_28 rfl hl (by decide) rfl (fun ls hl => ?_)
  refine wM_readAll_L29 C hr hlk hD _ _ _ _ _ _ _ h hP hS (lv_sub hl [1, 2, 0] rfl) ?_
  intro σ x1 H locs ls h hP hS hl
  refine lv_aload_n hx hb dX7_readAll_90 rfl (lv_at hl 0 rfl) ?_
  refine lv_dup hx hb dX7_readAll_91 rfl ?_
  refine mG_37 C in_7 hP k_127 dX7_readAll_92 ?_
  refine lv_aload_n hx hb dX7_readAll_95 rfl (lv_at hl 0 rfl) ?_
  refine mG_4 C in_7 hP k_22 dX7_readAll_96 ?_
  refine lv_iload_n hx hb dX7_readAll_99 rfl (lv_at hl 1 rfl) ?_
  obtain ⟨b_100, h⟩ := chk_of h
  refine mL_4 C hP b_100 dX7_readAll_100 ?_
  refine lv_iadd hx hb dX7_readAll_101 ?_
  refine mP_37 C in_7 hP hD hS k_127 dX7_readAll_102 (fun H locs hP hS => ?_)
  refine lv_aload_n hx hb dX7_readAll_105 rfl (lv_at hl 0 rfl) ?_
  refine lv_dup hx hb dX7_readAll_106 rfl ?_
  refine mG_36 C in_7 hP k_124 dX7_readAll_107 ?_
  refine lv_iconst (v := (1 : Int32)) hx hb dX7_readAll_110 (by decide) ?_
  refine lv_iadd hx hb dX7_readAll_111 ?_
  refine mP_36 C in_7 hP hD hS k_124 dX7_readAll_112 (fun H locs hP hS => ?_)
  exact W.vret hx hb hr (fun t ht hW => ⟨rfl, by rw [ht, ← some_of h]; exact hP, hS.F ht⟩) hS.2.2 dX7_readAll_115
def fM_of (N : Nat) (σ : MSt) (x1 : Int32) (x2 : Int32) (x3 : Int32) : Option (Int32) := chk ((((36 : Int32) * x1) + ((3 : Int32) * x2)) + x3) 144 (some (σ.2.2.1 5 ((((36 : Int32) * x1) + ((3 : Int32) * x2)) + x3).toNatClampNeg))
set_option maxRecDepth 100000 in
set_option maxHeartbeats 4000000 in
theorem cM_of {l : Launch} {D : va_G} {κ : Nat → ClassId} {ρ : Nat → Nat} {N : Nat} {σ : MSt} {x1 : Int32} {x2 : Int32} {x3 : Int32} {r : Int32} (h : fM_of N σ x1 x2 x3 = some r) : Met l yX7_of wsX7_of ({ frames := 0, cells := 0, slots := 0, locals := 0 } : Room) (va_Pc [.ref (ρ 40), .int x1, .int x2, .int x3] (PR D κ ρ σ)) (PU (some (.int r))) 0 0 (fun _ => False) := by
  refine mMetR (ret := (some .int)) (by decide) rfl rfl (Nat.le_of_ble_eq_true rfl) ?_
  intro p e s m below meth c ls C hr hlk hP hl
  have hl : lv_has ls 4 [(0, .ref (ρ 40)), (1, .int x1), (2, .int x2), (3, .int x3)] := hl
  unfold fM_of at h
  have hx := C.1.1
  have hb := C.1.2.1
  have hts := C.1.2.2.2.2
  have hown := C.1.2.2.2.1
  have k_26 := hts (.fieldLink RX7 26 "PlanCabinetModel" "value" "[I") (by decide +kernel)
  have in_7 : ∀ w ∈ wsX70, w ∈ wsX7_of := by decide +kernel
  refine lv_aload_n hx hb dX7_of_0 rfl (lv_at hl 0 rfl) ?_
  refine mG_5 C in_7 hP k_26 dX7_of_1 ?_
  refine lv_bipush (v := (36 : Int32)) hx hb dX7_of_4 (by decide) ?_
  refine lv_iload_n hx hb dX7_of_6 rfl (lv_at hl 1 rfl) ?_
  refine lv_imul hx hb dX7_of_7 ?_
  refine lv_iconst (v := (3 : Int32)) hx hb dX7_of_8 (by decide) ?_
  refine lv_iload_n hx hb dX7_of_9 rfl (lv_at hl 2 rfl) ?_
  refine lv_imul hx hb dX7_of_10 ?_
  refine lv_iadd hx hb dX7_of_11 ?_
  refine lv_iload_n hx hb dX7_of_12 rfl (lv_at hl 3 rfl) ?_
  refine lv_iadd hx hb dX7_of_13 ?_
  obtain ⟨b_14, h⟩ := chk_of h
  refine mL_5 C hP b_14 dX7_of_14 ?_
  exact W.iret hx hb hr (fun t ht hW => ⟨by rw [some_of h], ht⟩) (fun _ h => by cases h) dX7_of_15
def fM_fits_J122 (N : Nat) (σ : MSt) (K3 : Int32 → Int32 → Int32 → Int32 → Int32 → Option (Int32)) (x1 : Int32) (x2 : Int32) (x3 : Int32) (x4 : Int32) (x5 : Int32) (x6 : Int32) (y0 : Int32) : Option (Int32) := chk x5 4 (chk x5 4 ((fM_of N σ (σ.2.2.1 6 x5.toNatClampNeg) x6 (σ.2.2.1 7 x5.toNatClampNeg)).bind fun r_141 => chk x5 4 (chk x5 4 ((fM_of N σ (σ.2.2.1 8 x5.toNatClampNeg) y0 (σ.2.2.1 9 x5.toNatClampNeg)).bind fun r_161 => (if r_141 = r_161 then K3 x1 x2 x3 x4 (x5 + 1) else some (0 : Int32))))))
def fM_fits_J73 (N : Nat) (σ : MSt) (K3 : Int32 → Int32 → Int32 → Int32 → Int32 → Option (Int32)) (x1 : Int32) (x2 : Int32) (x3 : Int32) (x4 : Int32) (x5 : Int32) (y0 : Int32) : Option (Int32) := chk x5 4 ((if ((x1 >>> ((σ.2.2.1 8 x5.toNatClampNeg) &&& 31)) &&& (1 : Int32)) = (1 : Int32) then chk x5 4 (chk (x3 + (σ.2.2.1 8 x5.toNatClampNeg)) 414720 (fM_fits_J122 N σ (fun (x1 : Int32) (x2 : Int32) (x3 : Int32) (x4 : Int32) (x5 : Int32) => K3 x1 x2 x3 x4 x5) x1 x2 x3 x4 x5 y0 (σ.2.2.1 29 (x3 + (σ.2.2.1 8 x5.toNatClampNeg)).toNatClampNeg))) else chk x5 4 (chk (x4 + (σ.2.2.1 8 x5.toNatClampNeg)) 414720 (fM_fits_J122 N σ (fun (x1 : Int32) (x2 : Int32) (x3 : Int32) (x4 : Int32) (x5 : Int32) => K3 x1 x2 x3 x4 x5) x1 x2 x3 x4 x5 y0 (σ.2.2.1 29 (x4 + (σ.2.2.1 8 x5.toNatClampNeg)).toNatClampNeg)))))
def fM_fits_L3 (N : Nat) (σ : MSt) : Nat → Int32 → Int32 → Int32 → Int32 → Int32 → Option (Int32)
  | 0, _, _, _, _, _ => none
  | n + 1, x1, x2, x3, x4, x5 => (if (σ.1 1) ≤ x5 then some (1 : Int32) else (fM_isBetween N σ x5 x1 x2).bind fun r_17 => (if r_17 = 0 then fM_fits_L3 N σ n x1 x2 x3 x4 (x5 + 1) else chk x5 4 ((if ((x1 >>> ((σ.2.2.1 6 x5.toNatClampNeg) &&& 31)) &&& (1 : Int32)) = (1 : Int32) then chk x5 4 (chk (x3 + (σ.2.2.1 6 x5.toNatClampNeg)) 414720 (fM_fits_J73 N σ (fun (x1 : Int32) (x2 : Int32) (x3 : Int32) (x4 : Int32) (x5 : Int32) => fM_fits_L3 N σ n x1 x2 x3 x4 x5) x1 x2 x3 x4 x5 (σ.2.2.1 29 (x3 + (σ.2.2.1 6 x5.toNatClampNeg)).toNatClampNeg))) else chk x5 4 (chk (x4 + (σ.2.2.1 6 x5.toNatClampNeg)) 414720 (fM_fits_J73 N σ (fun (x1 : Int32) (x2 : Int32) (x3 : Int32) (x4 : Int32) (x5 : Int32) => fM_fits_L3 N σ n x1 x2 x3 x4 x5) x1 x2 x3 x4 x5 (σ.2.2.1 29 (x4 + (σ.2.2.1 6 x5.toNatClampNeg)).toNatClampNeg)))))))
def fM_fits (N : Nat) (σ : MSt) (x1 : Int32) (x2 : Int32) (x3 : Int32) (x4 : Int32) : Option (Int32) := fM_fits_L3 N σ N x1 x2 x3 x4 (0 : Int32)
set_option maxRecDepth 100000 in
set_option maxHeartbeats 4000000 in
theorem wM_fits_J122 {p : Program} {l : Launch} {e : Env} {s : State} {m : MethodId} {args : Array Value} {below : List Frame} {meth : Method} {c : Code} {D : va_G} {κ : Nat → ClassId} {ρ : Nat → Nat} {σ : MSt} (C : MC p m c cX7_fits 8 s args wsX7_fits D κ) (hr : meth.sig.returnType = (some .boolean)) (hlk : meth.locks = false) (hP : va_P D vwCl (cellsM κ ρ σ) s.heap) {N : Nat} {r : Int32} {K3 : Int32 → Int32 → Int32 → Int32 → Int32 → Option (Int32)} : ∀ (x1 : Int32) (x2 : Int32) (x3 : Int32) (x4 : Int32) (x5 : Int32) (x6 : Int32) (y0 : Int32) (ls : Array Slot), fM_fits_J122 N σ K3 x1 x2 x3 x4 x5 x6 y0 = some r → lv_has ls 8 [(0, .ref (ρ 40)), (1, .int x1), (2, .int x2), (3, .int x3), (4, .int x4), (5, .int x5), (6, .int x6)] → (∀ (x1 : Int32) (x2 : Int32) (x3 : Int32) (x4 : Int32) (x5 : Int32) (ls : Array Slot), K3 x1 x2 x3 x4 x5 = some r → lv_has ls 8 [(0, .ref (ρ 40)), (1, .int x1), (2, .int x2), (3, .int x3), (4, .int x4), (5, .int x5)] → W p l e ({ frames := 1, cells := 0, slots := 0, locals := 25 } : Room) s m args below meth c s.heap [] 0 0 (MQ below (PU (some (.int r))) args s 0 0 (fun _ => False)) (F0 m 3 ls [])) → W p l e ({ frames := 1, cells := 0, slots := 0, locals := 25 } : Room) s m args below meth c s.heap [] 0 0 (MQ below (PU (some (.int r))) args s 0 0 (fun _ => False)) (F0 m 122 ls [.int y0]) := by
  have hx := C.1.1
  have hb := C.1.2.1
  have hts := C.1.2.2.2.2
  have hown := C.1.2.2.2.1
  have k_29 := hts (.fieldLink RX7 29 "PlanCabinetModel" "pairT" "[I") (by decide +kernel)
  have k_32 := hts (.fieldLink RX7 32 "PlanCabinetModel" "pairC" "[I") (by decide +kernel)
  have k_35 := hts (.fieldLink RX7 35 "PlanCabinetModel" "pairU" "[I") (by decide +kernel)
  have k_38 := hts (.fieldLink RX7 38 "PlanCabinetModel" "pairO" "[I") (by decide +kernel)
  have in_7 : ∀ w ∈ wsX70, w ∈ wsX7_fits := by decide +kernel
  intro x1 x2 x3 x4 x5 x6 y0 ls h hl hK3
  unfold fM_fits_J122 at h
  refine lv_istore (lv' := [(7, .int y0), (0, .ref (ρ 40)), (1, .int x1), (2, .int x2), (3, .int x3), (4, .int x4), (5, .int x5), (6, .int x6)]) hx hb dX7_fits_122 hl (by decide) rfl (fun ls hl => ?_)
  refine lv_aload_n hx hb dX7_fits_124 rfl (lv_at hl 1 rfl) ?_
  refine lv_aload_n hx hb dX7_fits_125 rfl (lv_at hl 1 rfl) ?_
  refine mG_6 C in_7 hP k_29 dX7_fits_126 ?_
  refine lv_iload hx hb dX7_fits_129 (lv_at hl 6 rfl) ?_
  obtain ⟨b_131, h⟩ := chk_of h
  refine mL_6 C hP b_131 dX7_fits_131 ?_
  refine lv_iload hx hb dX7_fits_132 (lv_at hl 7 rfl) ?_
  refine lv_aload_n hx hb dX7_fits_134 rfl (lv_at hl 1 rfl) ?_
  refine mG_7 C in_7 hP k_32 dX7_fits_135 ?_
  refine lv_iload hx hb dX7_fits_138 (lv_at hl 6 rfl) ?_
  obtain ⟨b_140, h⟩ := chk_of h
  refine mL_7 C hP b_140 dX7_fits_140 ?_
  obtain ⟨r_141, e_141, h⟩ := bnd_of h
  refine callP (W.runV (As := [.int (σ.2.2.1 6 x5.toNatClampNeg), .int x6, .int (σ.2.2.1 7 x5.toNatClampNeg)]) C.1 (cM_of e_141) (cwV 3 hts gX7_fits_X7_of rfl rfl rfl (by decide +kernel) ⟨by decide, by decide⟩) (mPreR C.2 hP _) rfl rfl hl.1 rfl (lv_room (Nat.le_of_ble_eq_true rfl)) dX7_fits_141 ⟨Nat.zero_le _, Nat.zero_le _⟩) ?_
  refine lv_aload_n hx hb dX7_fits_144 rfl (lv_at hl 1 rfl) ?_
  refine lv_aload_n hx hb dX7_fits_145 rfl (lv_at hl 1 rfl) ?_
  refine mG_8 C in_7 hP k_35 dX7_fits_146 ?_
  refine lv_iload hx hb dX7_fits_149 (lv_at hl 6 rfl) ?_
  obtain ⟨b_151, h⟩ := chk_of h
  refine mL_8 C hP b_151 dX7_fits_151 ?_
  refine lv_iload hx hb dX7_fits_152 (lv_at hl 0 rfl) ?_
  refine lv_aload_n hx hb dX7_fits_154 rfl (lv_at hl 1 rfl) ?_
  refine mG_9 C in_7 hP k_38 dX7_fits_155 ?_
  refine lv_iload hx hb dX7_fits_158 (lv_at hl 6 rfl) ?_
  obtain ⟨b_160, h⟩ := chk_of h
  refine mL_9 C hP b_160 dX7_fits_160 ?_
  obtain ⟨r_161, e_161, h⟩ := bnd_of h
  refine callP (W.runV (As := [.int (σ.2.2.1 8 x5.toNatClampNeg), .int y0, .int (σ.2.2.1 9 x5.toNatClampNeg)]) C.1 (cM_of e_161) (cwV 3 hts gX7_fits_X7_of rfl rfl rfl (by decide +kernel) ⟨by decide, by decide⟩) (mPreR C.2 hP _) rfl rfl hl.1 rfl (lv_room (Nat.le_of_ble_eq_true rfl)) dX7_fits_161 ⟨Nat.zero_le _, Nat.zero_le _⟩) ?_
  refine lv_icmp_eq (tgt := 169) hx hb dX7_fits_164 (by decide) (fun c_164 => ?_) (fun c_164 => ?_)
  · have h := zz_pos c_164 h
    refine lv_iinc (v := (x5 + 1)) (lv' := [(5, .int (x5 + 1)), (7, .int y0), (0, .ref (ρ 40)), (1, .int x1), (2, .int x2), (3, .int x3), (4, .int x4), (6, .int x6)]) hx hb dX7_fits_169 hl (k := 6) rfl rfl (by decide) rfl (fun ls hl => ?_)
    refine lv_goto (tgt := 3) hx hb dX7_fits_172 (by decide) ?_
    exact hK3 _ _ _ _ _ _ h (lv_sub hl [2, 3, 4, 5, 6, 0] rfl)
  · have h := zz_neg c_164 h
    refine lv_iconst (v := (0 : Int32)) hx hb dX7_fits_167 (by decide) ?_
    exact W.zret (ty := .boolean) hx hb hr (by decide +kernel) (fun t ht hW => ⟨by rw [some_of h], ht⟩) (fun _ h => by cases h) dX7_fits_168
set_option maxRecDepth 100000 in
set_option maxHeartbeats 4000000 in
theorem wM_fits_J73 {p : Program} {l : Launch} {e : Env} {s : State} {m : MethodId} {args : Array Value} {below : List Frame} {meth : Method} {c : Code} {D : va_G} {κ : Nat → ClassId} {ρ : Nat → Nat} {σ : MSt} (C : MC p m c cX7_fits 8 s args wsX7_fits D κ) (hr : meth.sig.returnType = (some .boolean)) (hlk : meth.locks = false) (hP : va_P D vwCl (cellsM κ ρ σ) s.heap) {N : Nat} {r : Int32} {K3 : Int32 → Int32 → Int32 → Int32 → Int32 → Option (Int32)} : ∀ (x1 : Int32) (x2 : Int32) (x3 : Int32) (x4 : Int32) (x5 : Int32) (y0 : Int32) (ls : Array Slot), fM_fits_J73 N σ K3 x1 x2 x3 x4 x5 y0 = some r → lv_has ls 8 [(0, .ref (ρ 40)), (1, .int x1), (2, .int x2), (3, .int x3), (4, .int x4), (5, .int x5)] → (∀ (x1 : Int32) (x2 : Int32) (x3 : Int32) (x4 : Int32) (x5 : Int32) (ls : Array Slot), K3 x1 x2 x3 x4 x5 = some r → lv_has ls 8 [(0, .ref (ρ 40)), (1, .int x1), (2, .int x2), (3, .int x3), (4, .int x4), (5, .int x5)] → W p l e ({ frames := 1, cells := 0, slots := 0, locals := 25 } : Room) s m args below meth c s.heap [] 0 0 (MQ below (PU (some (.int r))) args s 0 0 (fun _ => False)) (F0 m 3 ls [])) → W p l e ({ frames := 1, cells := 0, slots := 0, locals := 25 } : Room) s m args below meth c s.heap [] 0 0 (MQ below (PU (some (.int r))) args s 0 0 (fun _ => False)) (F0 m 73 ls [.int y0]) := by
  have hx := C.1.1
  have hb := C.1.2.1
  have hts := C.1.2.2.2.2
  have hown := C.1.2.2.2.1
  have k_35 := hts (.fieldLink RX7 35 "PlanCabinetModel" "pairU" "[I") (by decide +kernel)
  have k_102 := hts (.fieldLink RX7 102 "PlanCabinetModel" "lists" "[I") (by decide +kernel)
  have in_7 : ∀ w ∈ wsX70, w ∈ wsX7_fits := by decide +kernel
  intro x1 x2 x3 x4 x5 y0 ls h hl hK3
  unfold fM_fits_J73 at h
  refine lv_istore (lv' := [(6, .int y0), (0, .ref (ρ 40)), (1, .int x1), (2, .int x2), (3, .int x3), (4, .int x4), (5, .int x5)]) hx hb dX7_fits_73 hl (by decide) rfl (fun ls hl => ?_)
  refine lv_iload_n hx hb dX7_fits_75 rfl (lv_at hl 2 rfl) ?_
  refine lv_aload_n hx hb dX7_fits_76 rfl (lv_at hl 1 rfl) ?_
  refine mG_8 C in_7 hP k_35 dX7_fits_77 ?_
  refine lv_iload hx hb dX7_fits_80 (lv_at hl 6 rfl) ?_
  obtain ⟨b_82, h⟩ := chk_of h
  refine mL_8 C hP b_82 dX7_fits_82 ?_
  refine lv_ishr hx hb dX7_fits_83 ?_
  refine lv_iconst (v := (1 : Int32)) hx hb dX7_fits_84 (by decide) ?_
  refine lv_iand hx hb dX7_fits_85 ?_
  refine lv_iconst (v := (1 : Int32)) hx hb dX7_fits_86 (by decide) ?_
  refine lv_icmp_ne (tgt := 107) hx hb dX7_fits_87 (by decide) (fun c_87 => ?_) (fun c_87 => ?_)
  · have h := zz_neg c_87 h
    refine lv_aload_n hx hb dX7_fits_107 rfl (lv_at hl 1 rfl) ?_
    refine mG_29 C in_7 hP k_102 dX7_fits_108 ?_
    refine lv_iload hx hb dX7_fits_111 (lv_at hl 5 rfl) ?_
    refine lv_aload_n hx hb dX7_fits_113 rfl (lv_at hl 1 rfl) ?_
    refine mG_8 C in_7 hP k_35 dX7_fits_114 ?_
    refine lv_iload hx hb dX7_fits_117 (lv_at hl 6 rfl) ?_
    obtain ⟨b_119, h⟩ := chk_of h
    refine mL_8 C hP b_119 dX7_fits_119 ?_
    refine lv_iadd hx hb dX7_fits_120 ?_
    obtain ⟨b_121, h⟩ := chk_of h
    refine mL_29 C hP b_121 dX7_fits_121 ?_
    refine wM_fits_J122 C hr hlk hP _ _ _ _ _ _ _ _ h (lv_sub hl [1, 2, 3, 4, 5, 6, 0] rfl) ?_
    intro x1 x2 x3 x4 x5 ls h hl
    exact hK3 _ _ _ _ _ _ h (lv_sub hl [0, 1, 2, 3, 4, 5] rfl)
  · have h := zz_pos c_87 h
    refine lv_aload_n hx hb dX7_fits_90 rfl (lv_at hl 1 rfl) ?_
    refine mG_29 C in_7 hP k_102 dX7_fits_91 ?_
    refine lv_iload_n hx hb dX7_fits_94 rfl (lv_at hl 4 rfl) ?_
    refine lv_aload_n hx hb dX7_fits_95 rfl (lv_at hl 1 rfl) ?_
    refine mG_8 C in_7 hP k_35 dX7_fits_96 ?_
    refine lv_iload hx hb dX7_fits_99 (lv_at hl 6 rfl) ?_
    obtain ⟨b_101, h⟩ := chk_of h
    refine mL_8 C hP b_101 dX7_fits_101 ?_
    refine lv_iadd hx hb dX7_fits_102 ?_
    obtain ⟨b_103, h⟩ := chk_of h
    refine mL_29 C hP b_103 dX7_fits_103 ?_
    refine lv_goto (tgt := 122) hx hb dX7_fits_104 (by decide) ?_
    refine wM_fits_J122 C hr hlk hP _ _ _ _ _ _ _ _ h (lv_sub hl [1, 2, 3, 4, 5, 6, 0] rfl) ?_
    intro x1 x2 x3 x4 x5 ls h hl
    exact hK3 _ _ _ _ _ _ h (lv_sub hl [0, 1, 2, 3, 4, 5] rfl)
set_option maxRecDepth 100000 in
set_option maxHeartbeats 4000000 in
theorem wM_fits_L3 {p : Program} {l : Launch} {e : Env} {s : State} {m : MethodId} {args : Array Value} {below : List Frame} {meth : Method} {c : Code} {D : va_G} {κ : Nat → ClassId} {ρ : Nat → Nat} {σ : MSt} (C : MC p m c cX7_fits 8 s args wsX7_fits D κ) (hr : meth.sig.returnType = (some .boolean)) (hlk : meth.locks = false) (hP : va_P D vwCl (cellsM κ ρ σ) s.heap) {N : Nat} {r : Int32} : ∀ (n : Nat) (x1 : Int32) (x2 : Int32) (x3 : Int32) (x4 : Int32) (x5 : Int32) (ls : Array Slot), fM_fits_L3 N σ n x1 x2 x3 x4 x5 = some r → lv_has ls 8 [(0, .ref (ρ 40)), (1, .int x1), (2, .int x2), (3, .int x3), (4, .int x4), (5, .int x5)] → W p l e ({ frames := 1, cells := 0, slots := 0, locals := 25 } : Room) s m args below meth c s.heap [] 0 0 (MQ below (PU (some (.int r))) args s 0 0 (fun _ => False)) (F0 m 3 ls []) := by
  have hx := C.1.1
  have hb := C.1.2.1
  have hts := C.1.2.2.2.2
  have hown := C.1.2.2.2.1
  have k_13 := hts (.fieldLink RX7 13 "PlanCabinetModel" "pairings" "I") (by decide +kernel)
  have k_29 := hts (.fieldLink RX7 29 "PlanCabinetModel" "pairT" "[I") (by decide +kernel)
  have k_102 := hts (.fieldLink RX7 102 "PlanCabinetModel" "lists" "[I") (by decide +kernel)
  have in_7 : ∀ w ∈ wsX70, w ∈ wsX7_fits := by decide +kernel
  intro n
  induction n with
  | zero =>
    intro x1 x2 x3 x4 x5 ls h hl
    rw [fM_fits_L3] at h
    cases h
  | succ n ih =>
    intro x1 x2 x3 x4 x5 ls h hl
    rw [fM_fits_L3] at h
    refine lv_iload hx hb dX7_fits_3 (lv_at hl 5 rfl) ?_
    refine lv_aload_n hx hb dX7_fits_5 rfl (lv_at hl 0 rfl) ?_
    refine mG_1 C in_7 hP k_13 dX7_fits_6 ?_
    refine lv_icmp_ge (tgt := 175) hx hb dX7_fits_9 (by decide) (fun c_9 => ?_) (fun c_9 => ?_)
    · have h := zz_pos c_9 h
      refine lv_iconst (v := (1 : Int32)) hx hb dX7_fits_175 (by decide) ?_
      exact W.zret (ty := .boolean) hx hb hr (by decide +kernel) (fun t ht hW => ⟨by rw [some_of h], ht⟩) (fun _ h => by cases h) dX7_fits_176
    · have h := zz_neg c_9 h
      refine lv_aload_n hx hb dX7_fits_12 rfl (lv_at hl 0 rfl) ?_
      refine lv_iload hx hb dX7_fits_13 (lv_at hl 5 rfl) ?_
      refine lv_iload_n hx hb dX7_fits_15 rfl (lv_at hl 1 rfl) ?_
      refine lv_iload_n hx hb dX7_fits_16 rfl (lv_at hl 2 rfl) ?_
      obtain ⟨r_17, e_17, h⟩ := bnd_of h
      refine callP (W.runV (As := [.int x5, .int x1, .int x2]) C.1 (cM_isBetween e_17) (cwV 3 hts gX7_fits_X7_isBetween rfl rfl rfl (by decide +kernel) ⟨by decide, by decide⟩) (mPreR C.2 hP _) rfl rfl hl.1 rfl (lv_room (Nat.le_of_ble_eq_true rfl)) dX7_fits_17 ⟨Nat.zero_le _, Nat.zero_le _⟩) ?_
      refine lv_if_ne (tgt := 26) hx hb dX7_fits_20 (by decide) (fun c_20 => ?_) (fun c_20 => ?_)
      · have h := zz_neg c_20 h
        refine lv_iload_n hx hb dX7_fits_26 rfl (lv_at hl 1 rfl) ?_
        refine lv_aload_n hx hb dX7_fits_27 rfl (lv_at hl 0 rfl) ?_
        refine mG_6 C in_7 hP k_29 dX7_fits_28 ?_
        refine lv_iload hx hb dX7_fits_31 (lv_at hl 5 rfl) ?_
        obtain ⟨b_33, h⟩ := chk_of h
        refine mL_6 C hP b_33 dX7_fits_33 ?_
        refine lv_ishr hx hb dX7_fits_34 ?_
        refine lv_iconst (v := (1 : Int32)) hx hb dX7_fits_35 (by decide) ?_
        refine lv_iand hx hb dX7_fits_36 ?_
        refine lv_iconst (v := (1 : Int32)) hx hb dX7_fits_37 (by decide) ?_
        refine lv_icmp_ne (tgt := 58) hx hb dX7_fits_38 (by decide) (fun c_38 => ?_) (fun c_38 => ?_)
        · have h := zz_neg c_38 h
          refine lv_aload_n hx hb dX7_fits_58 rfl (lv_at hl 0 rfl) ?_
          refine mG_29 C in_7 hP k_102 dX7_fits_59 ?_
          refine lv_iload hx hb dX7_fits_62 (lv_at hl 4 rfl) ?_
          refine lv_aload_n hx hb dX7_fits_64 rfl (lv_at hl 0 rfl) ?_
          refine mG_6 C in_7 hP k_29 dX7_fits_65 ?_
          refine lv_iload hx hb dX7_fits_68 (lv_at hl 5 rfl) ?_
          obtain ⟨b_70, h⟩ := chk_of h
          refine mL_6 C hP b_70 dX7_fits_70 ?_
          refine lv_iadd hx hb dX7_fits_71 ?_
          obtain ⟨b_72, h⟩ := chk_of h
          refine mL_29 C hP b_72 dX7_fits_72 ?_
          refine wM_fits_J73 C hr hlk hP _ _ _ _ _ _ _ h (lv_sub hl [0, 1, 2, 3, 4, 5] rfl) ?_
          intro x1 x2 x3 x4 x5 ls h hl
          exact ih _ _ _ _ _ _ h (lv_sub hl [0, 1, 2, 3, 4, 5] rfl)
        · have h := zz_pos c_38 h
          refine lv_aload_n hx hb dX7_fits_41 rfl (lv_at hl 0 rfl) ?_
          refine mG_29 C in_7 hP k_102 dX7_fits_42 ?_
          refine lv_iload_n hx hb dX7_fits_45 rfl (lv_at hl 3 rfl) ?_
          refine lv_aload_n hx hb dX7_fits_46 rfl (lv_at hl 0 rfl) ?_
          refine mG_6 C in_7 hP k_29 dX7_fits_47 ?_
          refine lv_iload hx hb dX7_fits_50 (lv_at hl 5 rfl) ?_
          obtain ⟨b_52, h⟩ := chk_of h
          refine mL_6 C hP b_52 dX7_fits_52 ?_
          refine lv_iadd hx hb dX7_fits_53 ?_
          obtain ⟨b_54, h⟩ := chk_of h
          refine mL_29 C hP b_54 dX7_fits_54 ?_
          refine lv_goto (tgt := 73) hx hb dX7_fits_55 (by decide) ?_
          refine wM_fits_J73 C hr hlk hP _ _ _ _ _ _ _ h (lv_sub hl [0, 1, 2, 3, 4, 5] rfl) ?_
          intro x1 x2 x3 x4 x5 ls h hl
          exact ih _ _ _ _ _ _ h (lv_sub hl [0, 1, 2, 3, 4, 5] rfl)
      · have h := zz_pos c_20 h
        refine lv_goto (tgt := 169) hx hb dX7_fits_23 (by decide) ?_
        refine lv_iinc (v := (x5 + 1)) (lv' := [(5, .int (x5 + 1)), (0, .ref (ρ 40)), (1, .int x1), (2, .int x2), (3, .int x3), (4, .int x4)]) hx hb dX7_fits_169 hl (k := 5) rfl rfl (by decide) rfl (fun ls hl => ?_)
        refine lv_goto (tgt := 3) hx hb dX7_fits_172 (by decide) ?_
        exact ih _ _ _ _ _ _ h (lv_sub hl [1, 2, 3, 4, 5, 0] rfl)
set_option maxRecDepth 100000 in
set_option maxHeartbeats 4000000 in
theorem cM_fits {l : Launch} {D : va_G} {κ : Nat → ClassId} {ρ : Nat → Nat} {N : Nat} {σ : MSt} {x1 : Int32} {x2 : Int32} {x3 : Int32} {x4 : Int32} {r : Int32} (h : fM_fits N σ x1 x2 x3 x4 = some r) : Met l yX7_fits wsX7_fits ({ frames := 1, cells := 0, slots := 0, locals := 25 } : Room) (va_Pc [.ref (ρ 40), .int x1, .int x2, .int x3, .int x4] (PR D κ ρ σ)) (PU (some (.int r))) 0 0 (fun _ => False) := by
  refine mMetR (ret := (some .boolean)) (by decide) rfl rfl (Nat.le_of_ble_eq_true rfl) ?_
  intro p e s m below meth c ls C hr hlk hP hl
  have hl : lv_has ls 8 [(0, .ref (ρ 40)), (1, .int x1), (2, .int x2), (3, .int x3), (4, .int x4)] := hl
  unfold fM_fits at h
  have hx := C.1.1
  have hb := C.1.2.1
  have hts := C.1.2.2.2.2
  have hown := C.1.2.2.2.1
  refine lv_iconst (v := (0 : Int32)) hx hb dX7_fits_0 (by decide) ?_
  refine lv_istore (lv' := [(5, .int (0 : Int32)), (0, .ref (ρ 40)), (1, .int x1), (2, .int x2), (3, .int x3), (4, .int x4)]) hx hb dX7_fits_1 hl (by decide) rfl (fun ls hl => ?_)
  exact wM_fits_L3 C hr hlk hP _ _ _ _ _ _ _ h (lv_sub hl [1, 2, 3, 4, 5, 0] rfl)
