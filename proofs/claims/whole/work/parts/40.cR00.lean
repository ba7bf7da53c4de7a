/-! the class, R: makeRoom, pushRows, findBetween, joinSteps, findRanks, sort, isHeldBetween, combine, joinTopTwo -/
def fR_makeRoom_L4 (N : Nat) (K36 : CSt → Int32 → Option (CSt)) : Nat → CSt → Int32 → Int32 → Option (CSt)
  | 0, _, _, _ => none
  | n + 1, σ, x1, x2 => (if (σ.1 300) ≤ x2 then K36 σ x1 else (fQ_rowsOf N σ x2).bind fun r_22 => fR_makeRoom_L4 N K36 n σ (x1 * (if (1 : Int32) < r_22 then r_22 else (1 : Int32))) (x2 + 1))
def fR_makeRoom (N : Nat) (σ : CSt) : Option (CSt) := fR_makeRoom_L4 N (fun (σ : CSt) (x1 : Int32) => (if x1 ≤ (Int32.ofNat (σ.2.2.2.2.2 403)) then some σ else mkk (x1 + (4 : Int32)) 4100 (mkk x1 4096 (some (cN (cN σ 402 (x1 + (4 : Int32)).toNatClampNeg) 403 x1.toNatClampNeg))))) N σ (1 : Int32) (0 : Int32)
set_option maxRecDepth 100000 in
set_option maxHeartbeats 4000000 in
theorem wR_makeRoom_L4 {p : Program} {l : Launch} {e : Env} {s : State} {m : MethodId} {args : Array Value} {below : List Frame} {meth : Method} {c : Code} {D : va_G} {κ : Nat → ClassId} {ρ : Nat → Nat} {g0 : Gh} (C : CallFix p m c cX4_makeRoom 3 s args wsX4_makeRoom RX4) (hr : meth.sig.returnType = none) (hlk : meth.locks = false) {N : Nat} {q : CSt} {K36 : CSt → Int32 → Option (CSt)} : ∀ (n : Nat) (σ : CSt) (x1 : Int32) (x2 : Int32) (g : Gh) (H : Heap) (locs : List Loc) (ce : Nat) (sl : Nat) (ls : Array Slot), fR_makeRoom_L4 N K36 n σ x1 x2 = some q → WC D κ ρ (AC ρ g0 s.heap.size) s.heap g σ s H locs → sub g0 g → ce ≤ 0 ∧ sl ≤ 0 → lv_has ls 3 [(0, .ref (ρ 499)), (1, .int x1), (2, .int x2)] → (∀ (σ : CSt) (x1 : Int32) (g : Gh) (H : Heap) (locs : List Loc) (ce : Nat) (sl : Nat) (ls : Array Slot), K36 σ x1 = some q → WC D κ ρ (AC ρ g0 s.heap.size) s.heap g σ s H locs → sub g0 g → ce ≤ 0 ∧ sl ≤ 0 → lv_has ls 3 [(0, .ref (ρ 499)), (1, .int x1)] → W p l e ({ frames := 2, cells := 2, slots := 8200, locals := 42 } : Room) s m args below meth c H locs ce sl (MQ below (QC D κ ρ s.heap.size g0 q none) args s 2 8200 (AC ρ g0 s.heap.size)) (F0 m 36 ls [])) → W p l e ({ frames := 2, cells := 2, slots := 8200, locals := 42 } : Room) s m args below meth c H locs ce sl (MQ below (QC D κ ρ s.heap.size g0 q none) args s 2 8200 (AC ρ g0 s.heap.size)) (F0 m 4 ls []) := by
  have hx := C.1
  have hb := C.2.1
  have hts := C.2.2.2.2
  have hown := C.2.2.2.1
  have k_33 := hts (.fieldLink RX4 33 "PlanCabinet$Runner" "question" "LPlanCabinet$Question;") (by decide +kernel)
  have k_97 := hts (.fieldLink RX4 97 "PlanCabinet$Question" "tableCount" "I") (by decide +kernel)
  have in_3 : ∀ w ∈ wsX30, w ∈ wsX4_makeRoom := by decide +kernel
  have in_4 : ∀ w ∈ wsX40, w ∈ wsX4_makeRoom := by decide +kernel
  intro n
  induction n with
  | zero =>
    intro σ x1 x2 g H locs ce sl ls h hw hg hc hl hK36
    rw [fR_makeRoom_L4] at h
    cases h
  | succ n ih =>
    intro σ x1 x2 g H locs ce sl ls h hw hg hc hl hK36
    rw [fR_makeRoom_L4] at h
    refine lv_iload_n hx hb dX4_makeRoom_4 rfl (lv_at hl 2 rfl) ?_
    refine lv_aload_n hx hb dX4_makeRoom_5 rfl (lv_at hl 0 rfl) ?_
    refine cG_401 C in_4 hw.1 k_33 dX4_makeRoom_6 ?_
    refine cG_300 C in_3 hw.1 k_97 dX4_makeRoom_9 ?_
    refine lv_icmp_ge (tgt := 36) hx hb dX4_makeRoom_12 (by decide) (fun c_12 => ?_) (fun c_12 => ?_)
    · have h := zz_pos c_12 h
      exact hK36 _ _ _ _ _ _ _ _ h hw hg (by omega) (lv_sub hl [0, 1] rfl)
    · have h := zz_neg c_12 h
      refine lv_iload_n hx hb dX4_makeRoom_15 rfl (lv_at hl 1 rfl) ?_
      refine lv_iconst (v := (1 : Int32)) hx hb dX4_makeRoom_16 (by decide) ?_
      refine lv_aload_n hx hb dX4_makeRoom_17 rfl (lv_at hl 0 rfl) ?_
      refine cG_401 C in_4 hw.1 k_33 dX4_makeRoom_18 ?_
      refine lv_iload_n hx hb dX4_makeRoom_21 rfl (lv_at hl 2 rfl) ?_
      obtain ⟨r_22, e_22, h⟩ := bnd_of h
      refine callP (W.runV (As := [.int x2]) C (cQ_rowsOf e_22) (cwV 1 hts gX4_makeRoom_X3_rowsOf rfl rfl rfl (by decide +kernel) ⟨by decide, by decide⟩) (preR (recv_399 hw.1) hw.1) rfl rfl hl.1 rfl (lv_room (Nat.le_of_ble_eq_true rfl)) dX4_makeRoom_22 ⟨by show _ ≤ 2; omega, by show _ ≤ 8200; omega⟩) ?_
      refine va_mmax hx hb (C.2.2.1.trans hl.1.symm) hown (hts (.methodLink RX4 103 yJ9_max_7cf53) (by decide +kernel)) (hts (.static yJ9_max_7cf53) (by decide +kernel)) (hts (.initialized RJ9) (by decide +kernel)) (hts (.code yJ9_max_7cf53 cJ9_max_7cf53 2 (some .int)) (by decide +kernel)) (Nat.le_of_ble_eq_true rfl) (Nat.le_of_ble_eq_true rfl) (by show _ ≤ 2; omega) (by show _ ≤ 8200; omega) dX4_makeRoom_25 ?_
      refine lv_imul hx hb dX4_makeRoom_28 ?_
      refine lv_istore_n (lv' := [(1, .int (x1 * (if (1 : Int32) < r_22 then r_22 else (1 : Int32)))), (0, .ref (ρ 499)), (2, .int x2)]) hx hb dX4_makeRoom_29 rfl hl (by decide) rfl (fun ls hl => ?_)
      refine lv_iinc (v := (x2 + 1)) (lv' := [(2, .int (x2 + 1)), (1, .int (x1 * (if (1 : Int32) < r_22 then r_22 else (1 : Int32)))), (0, .ref (ρ 499))]) hx hb dX4_makeRoom_30 hl (k := 2) rfl rfl (by decide) rfl (fun ls hl => ?_)
      refine lv_goto (tgt := 4) hx hb dX4_makeRoom_33 (by decide) ?_
      exact ih _ _ _ _ _ _ _ _ _ h hw hg (by omega) (lv_sub hl [2, 1, 0] rfl) hK36
set_option maxRecDepth 100000 in
set_option maxHeartbeats 4000000 in
theorem cR_makeRoom {l : Launch} {D : va_G} {κ : Nat → ClassId} {ρ : Nat → Nat} {g0 : Gh} {sz : Nat} {N : Nat} {σ : CSt} {q : CSt} (h : fR_makeRoom N σ = some q) : Met l yX4_makeRoom wsX4_makeRoom ({ frames := 2, cells := 2, slots := 8200, locals := 42 } : Room) (va_Pc [.ref (ρ 499)] (PC D κ ρ sz g0 σ)) (QC D κ ρ sz g0 q none) 2 8200 (AC ρ g0 sz) := by
  refine cMetM (Qc := fun z => QC D κ ρ z g0 q none) (ret := none) (by decide) rfl rfl (Nat.le_of_ble_eq_true rfl) ?_
  intro p e s m below meth c ls C hr hlk hw hl
  obtain ⟨g, eg⟩ : ∃ x, x = g0 := ⟨_, rfl⟩
  have hw : WC D κ ρ (AC ρ g0 s.heap.size) s.heap g σ s s.heap [] := by rw [eg]; exact hw
  have hg : sub g0 g := by rw [eg]; exact sub_rf g0
  refine W.widen (k := 0) (n := 0) (Nat.le_refl _) (Nat.le_refl _) ?_
  obtain ⟨ce, ece⟩ : ∃ x : Nat, x = 0 := ⟨_, rfl⟩
  obtain ⟨sl, esl⟩ : ∃ x : Nat, x = 0 := ⟨_, rfl⟩
  refine W.widen (k := ce) (n := sl) (Nat.zero_le _) (Nat.zero_le _) ?_
  have hl : lv_has ls 3 [(0, .ref (ρ 499))] := hl
  unfold fR_makeRoom at h
  have hx := C.1
  have hb := C.2.1
  have hts := C.2.2.2.2
  have hown := C.2.2.2.1
  have k_9 := hts (.fieldLink RX4 9 "PlanCabinet$Runner" "stack" "[I") (by decide +kernel)
  have k_15 := hts (.fieldLink RX4 15 "PlanCabinet$Runner" "joined" "[I") (by decide +kernel)
  have in_4 : ∀ w ∈ wsX40, w ∈ wsX4_makeRoom := by decide +kernel
  refine lv_iconst (v := (1 : Int32)) hx hb dX4_makeRoom_0 (by decide) ?_
  refine lv_istore_n (lv' := [(1, .int (1 : Int32)), (0, .ref (ρ 499))]) hx hb dX4_makeRoom_1 rfl hl (by decide) rfl (fun ls hl => ?_)
  refine lv_iconst (v := (0 : Int32)) hx hb dX4_makeRoom_2 (by decide) ?_
  refine lv_istore_n (lv' := [(2, .int (0 : Int32)), (1, .int (1 : Int32)), (0, .ref (ρ 499))]) hx hb dX4_makeRoom_3 rfl hl (by decide) rfl (fun ls hl => ?_)
  refine wR_makeRoom_L4 C hr hlk  _ _ _ _ _ _ _ _ _ _ h hw hg (by omega) (lv_sub hl [2, 1, 0] rfl) ?_
  intro σ x1 g H locs ce sl ls h hw hg hc hl
  refine lv_aload_n hx hb dX4_makeRoom_36 rfl (lv_at hl 0 rfl) ?_
  refine cG_403 C in_4 hw.1 k_15 dX4_makeRoom_37 ?_
  refine cLen_403 C hw.1 dX4_makeRoom_40 ?_
  refine lv_iload_n hx hb dX4_makeRoom_41 rfl (lv_at hl 1 rfl) ?_
  refine lv_icmp_ge (tgt := 61) hx hb dX4_makeRoom_42 (by decide) (fun c_42 => ?_) (fun c_42 => ?_)
  · have h := zz_pos c_42 h
    refine W.widen (k := 2) (n := 8200) (by omega) (by omega) ?_
    exact W.vret hx hb hr (fun t ht hW => QC.of rfl (by rw [← some_of h]; exact hw) hg ht hW) hw.2.2.2.2 dX4_makeRoom_61
  · have h := zz_neg c_42 h
    refine lv_aload_n hx hb dX4_makeRoom_45 rfl (lv_at hl 0 rfl) ?_
    refine lv_iload_n hx hb dX4_makeRoom_46 rfl (lv_at hl 1 rfl) ?_
    refine lv_iconst (v := (4 : Int32)) hx hb dX4_makeRoom_47 (by decide) ?_
    refine lv_iadd hx hb dX4_makeRoom_48 ?_
    obtain ⟨b_49, b2_49, h⟩ := mkk_of h
    refine cMk_402 C in_4 hw (fun _ h => Or.inr h) (hts (.arrayClass .int) (by decide +kernel)) k_9 b_49 (by omega) (by show _ ≤ 2; omega) (by show _ ≤ 8200; omega) dX4_makeRoom_49 dX4_makeRoom_51 (fun g H locs eg hw => ?_)
    have hs := sub_eq2 eg
    have hg := sub_tr hg hs
    obtain ⟨ce, ec_49⟩ : ∃ x, x = ce + 1 := ⟨_, rfl⟩
    obtain ⟨sl, es_49⟩ : ∃ x, x = sl + ((x1 + (4 : Int32))).toNatClampNeg := ⟨_, rfl⟩
    rw [← ec_49, ← es_49]
    refine lv_aload_n hx hb dX4_makeRoom_54 rfl (lv_at hl 0 rfl) ?_
    refine lv_iload_n hx hb dX4_makeRoom_55 rfl (lv_at hl 1 rfl) ?_
    obtain ⟨b_56, b2_56, h⟩ := mkk_of h
    refine cMk_403 C in_4 hw (fun _ h => Or.inr h) (hts (.arrayClass .int) (by decide +kernel)) k_15 b_56 (by omega) (by show _ ≤ 2; omega) (by show _ ≤ 8200; omega) dX4_makeRoom_56 dX4_makeRoom_58 (fun g H locs eg hw => ?_)
    have hs := sub_eq2 eg
    have hg := sub_tr hg hs
    obtain ⟨ce, ec_56⟩ : ∃ x, x = ce + 1 := ⟨_, rfl⟩
    obtain ⟨sl, es_56⟩ : ∃ x, x = sl + (x1).toNatClampNeg := ⟨_, rfl⟩
    rw [← ec_56, ← es_56]
    refine W.widen (k := 2) (n := 8200) (by omega) (by omega) ?_
    exact W.vret hx hb hr (fun t ht hW => QC.of rfl (by rw [← some_of h]; exact hw) hg ht hW) hw.2.2.2.2 dX4_makeRoom_61
def fR_pushRows_L46 (N : Nat) (K73 : CSt → Int32 → Int32 → Int32 → Option (CSt)) : Nat → CSt → Int32 → Int32 → Int32 → Int32 → Option (CSt)
  | 0, _, _, _, _, _ => none
  | n + 1, σ, x1, x2, x3, x4 => (if x2 ≤ x4 then K73 σ x1 x2 x3 else (fQ_asPart N x4 x1).bind fun r_63 => chk (x3 + x4) (σ.2.2.2.2.2 402) (fR_pushRows_L46 N K73 n (cA σ 402 (x3 + x4).toNatClampNeg r_63) x1 x2 x3 (x4 + 1)))
def fR_pushRows (N : Nat) (σ : CSt) (x1 : Int32) : Option (CSt) := (fQ_rowsOf N σ x1).bind fun r_5 => chk (if (4 : Int32) < (σ.1 410) then (4 : Int32) else (σ.1 410)) 5 ((if (4 : Int32) ≤ (σ.1 410) then some σ else (if ((σ.2.2.1 404 (if (4 : Int32) < (σ.1 410) then (4 : Int32) else (σ.1 410)).toNatClampNeg) + r_5) ≤ (Int32.ofNat (σ.2.2.2.2.2 402)) then fR_pushRows_L46 N (fun (σ : CSt) (x1 : Int32) (x2 : Int32) (x3 : Int32) => chk (σ.1 410) 4 (chk ((cI (cA σ 405 (σ.1 410).toNatClampNeg ((1 : Int32) <<< (x1 &&& 31))) 410 (((cA σ 405 (σ.1 410).toNatClampNeg ((1 : Int32) <<< (x1 &&& 31))).1 410) + (1 : Int32))).1 410) 5 (some (cI (cA (cI (cA σ 405 (σ.1 410).toNatClampNeg ((1 : Int32) <<< (x1 &&& 31))) 410 (((cA σ 405 (σ.1 410).toNatClampNeg ((1 : Int32) <<< (x1 &&& 31))).1 410) + (1 : Int32))) 404 ((cI (cA σ 405 (σ.1 410).toNatClampNeg ((1 : Int32) <<< (x1 &&& 31))) 410 (((cA σ 405 (σ.1 410).toNatClampNeg ((1 : Int32) <<< (x1 &&& 31))).1 410) + (1 : Int32))).1 410).toNatClampNeg (x3 + x2)) 400 (((cA (cI (cA σ 405 (σ.1 410).toNatClampNeg ((1 : Int32) <<< (x1 &&& 31))) 410 (((cA σ 405 (σ.1 410).toNatClampNeg ((1 : Int32) <<< (x1 &&& 31))).1 410) + (1 : Int32))) 404 ((cI (cA σ 405 (σ.1 410).toNatClampNeg ((1 : Int32) <<< (x1 &&& 31))) 410 (((cA σ 405 (σ.1 410).toNatClampNeg ((1 : Int32) <<< (x1 &&& 31))).1 410) + (1 : Int32))).1 410).toNatClampNeg (x3 + x2)).1 400) + x2))))) N σ x1 r_5 (σ.2.2.1 404 (if (4 : Int32) < (σ.1 410) then (4 : Int32) else (σ.1 410)).toNatClampNeg) (0 : Int32) else some σ)))
set_option maxRecDepth 100000 in
set_option maxHeartbeats 4000000 in
theorem wR_pushRows_L46 {p : Program} {l : Launch} {e : Env} {s : State} {m : MethodId} {args : Array Value} {below : List Frame} {meth : Method} {c : Code} {D : va_G} {κ : Nat → ClassId} {ρ : Nat → Nat} {g0 : Gh} (C : CallFix p m c cX4_pushRows 5 s args wsX4_pushRows RX4) (hr : meth.sig.returnType = none) (hlk : meth.locks = false) {N : Nat} {q : CSt} {K73 : CSt → Int32 → Int32 → Int32 → Option (CSt)} : ∀ (n : Nat) (σ : CSt) (x1 : Int32) (x2 : Int32) (x3 : Int32) (x4 : Int32) (g : Gh) (H : Heap) (locs : List Loc) (ls : Array Slot), fR_pushRows_L46 N K73 n σ x1 x2 x3 x4 = some q → WC D κ ρ (AC ρ g0 s.heap.size) s.heap g σ s H locs → sub g0 g → lv_has ls 5 [(0, .ref (ρ 499)), (1, .int x1), (2, .int x2), (3, .int x3), (4, .int x4)] → (∀ (σ : CSt) (x1 : Int32) (x2 : Int32) (x3 : Int32) (g : Gh) (H : Heap) (locs : List Loc) (ls : Array Slot), K73 σ x1 x2 x3 = some q → WC D κ ρ (AC ρ g0 s.heap.size) s.heap g σ s H locs → sub g0 g → lv_has ls 5 [(0, .ref (ρ 499)), (1, .int x1), (2, .int x2), (3, .int x3)] → W p l e ({ frames := 2, cells := 0, slots := 0, locals := 42 } : Room) s m args below meth c H locs 0 0 (MQ below (QC D κ ρ s.heap.size g0 q none) args s 0 0 (AC ρ g0 s.heap.size)) (F0 m 73 ls [])) → W p l e ({ frames := 2, cells := 0, slots := 0, locals := 42 } : Room) s m args below meth c H locs 0 0 (MQ below (QC D κ ρ s.heap.size g0 q none) args s 0 0 (AC ρ g0 s.heap.size)) (F0 m 46 ls []) := by
  have hx := C.1
  have hb := C.2.1
  have hts := C.2.2.2.2
  have hown := C.2.2.2.1
  have k_9 := hts (.fieldLink RX4 9 "PlanCabinet$Runner" "stack" "[I") (by decide +kernel)
  have in_4 : ∀ w ∈ wsX40, w ∈ wsX4_pushRows := by decide +kernel
  intro n
  induction n with
  | zero =>
    intro σ x1 x2 x3 x4 g H locs ls h hw hg hl hK73
    rw [fR_pushRows_L46] at h
    cases h
  | succ n ih =>
    intro σ x1 x2 x3 x4 g H locs ls h hw hg hl hK73
    rw [fR_pushRows_L46] at h
    refine lv_iload hx hb dX4_pushRows_46 (lv_at hl 4 rfl) ?_
    refine lv_iload_n hx hb dX4_pushRows_48 rfl (lv_at hl 2 rfl) ?_
    refine lv_icmp_ge (tgt := 73) hx hb dX4_pushRows_49 (by decide) (fun c_49 => ?_) (fun c_49 => ?_)
    · have h := zz_pos c_49 h
      exact hK73 _ _ _ _ _ _ _ _ h hw hg (lv_sub hl [0, 1, 2, 3] rfl)
    · have h := zz_neg c_49 h
      refine lv_aload_n hx hb dX4_pushRows_52 rfl (lv_at hl 0 rfl) ?_
      refine cG_402 C in_4 hw.1 k_9 dX4_pushRows_53 ?_
      refine lv_iload_n hx hb dX4_pushRows_56 rfl (lv_at hl 3 rfl) ?_
      refine lv_iload hx hb dX4_pushRows_57 (lv_at hl 4 rfl) ?_
      refine lv_iadd hx hb dX4_pushRows_59 ?_
      refine lv_iload hx hb dX4_pushRows_60 (lv_at hl 4 rfl) ?_
      refine lv_iload_n hx hb dX4_pushRows_62 rfl (lv_at hl 1 rfl) ?_
      obtain ⟨r_63, e_63, h⟩ := bnd_of h
      refine callP (W.runS (As := [.int x4, .int x1]) C (cQ_asPart e_63) (va_cwS 2 hts gX4_pushRows_X3_asPart rfl rfl rfl (by decide +kernel) ⟨by decide, by decide⟩) preT rfl rfl hl.1 rfl (lv_room (Nat.le_of_ble_eq_true rfl)) dX4_pushRows_63 ⟨Nat.zero_le _, Nat.zero_le _⟩) ?_
      obtain ⟨b_66, h⟩ := chk_of h
      refine cS_402 C hw b_66 dX4_pushRows_66 (fun H locs hw => ?_)
      refine lv_iinc (v := (x4 + 1)) (lv' := [(4, .int (x4 + 1)), (0, .ref (ρ 499)), (1, .int x1), (2, .int x2), (3, .int x3)]) hx hb dX4_pushRows_67 hl (k := 4) rfl rfl (by decide) rfl (fun ls hl => ?_)
      refine lv_goto (tgt := 46) hx hb dX4_pushRows_70 (by decide) ?_
      exact ih _ _ _ _ _ _ _ _ _ h hw hg (lv_sub hl [1, 2, 3, 4, 0] rfl) hK73
set_option maxRecDepth 100000 in
set_option maxHeartbeats 4000000 in
theorem cR_pushRows {l : Launch} {D : va_G} {κ : Nat → ClassId} {ρ : Nat → Nat} {g0 : Gh} {sz : Nat} {N : Nat} {σ : CSt} {x1 : Int32} {q : CSt} (h : fR_pushRows N σ x1 = some q) : Met l yX4_pushRows wsX4_pushRows ({ frames := 2, cells := 0, slots := 0, locals := 42 } : Room) (va_Pc [.ref (ρ 499), .int x1] (PC D κ ρ sz g0 σ)) (QC D κ ρ sz g0 q none) 0 0 (AC ρ g0 sz) := by
  refine cMetM (Qc := fun z => QC D κ ρ z g0 q none) (ret := none) (by decide) rfl rfl (Nat.le_of_ble_eq_true rfl) ?_
  intro p e s m below meth c ls C hr hlk hw hl
  obtain ⟨g, eg⟩ : ∃ x, x = g0 := ⟨_, rfl⟩
  have hw : WC D κ ρ (AC ρ g0 s.heap.size) s.heap g σ s s.heap [] := by rw [eg]; exact hw
  have hg : sub g0 g := by rw [eg]; exact sub_rf g0
  have hl : lv_has ls 5 [(0, .ref (ρ 499)), (1, .int x1)] := hl
  unfold fR_pushRows at h
  have hx := C.1
  have hb := C.2.1
  have hts := C.2.2.2.2
  have hown := C.2.2.2.1
  have k_9 := hts (.fieldLink RX4 9 "PlanCabinet$Runner" "stack" "[I") (by decide +kernel)
  have k_18 := hts (.fieldLink RX4 18 "PlanCabinet$Runner" "starts" "[I") (by decide +kernel)
  have k_21 := hts (.fieldLink RX4 21 "PlanCabinet$Runner" "sets" "[I") (by decide +kernel)
  have k_33 := hts (.fieldLink RX4 33 "PlanCabinet$Runner" "question" "LPlanCabinet$Question;") (by decide +kernel)
  have k_40 := hts (.fieldLink RX4 40 "PlanCabinet$Runner" "stepCount" "I") (by decide +kernel)
  have k_44 := hts (.fieldLink RX4 44 "PlanCabinet$Runner" "depth" "I") (by decide +kernel)
  have in_4 : ∀ w ∈ wsX40, w ∈ wsX4_pushRows := by decide +kernel
  refine lv_aload_n hx hb dX4_pushRows_0 rfl (lv_at hl 0 rfl) ?_
  refine cG_401 C in_4 hw.1 k_33 dX4_pushRows_1 ?_
  refine lv_iload_n hx hb dX4_pushRows_4 rfl (lv_at hl 1 rfl) ?_
  obtain ⟨r_5, e_5, h⟩ := bnd_of h
  refine callP (W.runV (As := [.int x1]) C (cQ_rowsOf e_5) (cwV 1 hts gX4_pushRows_X3_rowsOf rfl rfl rfl (by decide +kernel) ⟨by decide, by decide⟩) (preR (recv_399 hw.1) hw.1) rfl rfl hl.1 rfl (lv_room (Nat.le_of_ble_eq_true rfl)) dX4_pushRows_5 ⟨Nat.zero_le _, Nat.zero_le _⟩) ?_
  refine lv_istore_n (lv' := [(2, .int r_5), (0, .ref (ρ 499)), (1, .int x1)]) hx hb dX4_pushRows_8 rfl hl (by decide) rfl (fun ls hl => ?_)
  refine lv_aload_n hx hb dX4_pushRows_9 rfl (lv_at hl 1 rfl) ?_
  refine cG_404 C in_4 hw.1 k_18 dX4_pushRows_10 ?_
  refine lv_aload_n hx hb dX4_pushRows_13 rfl (lv_at hl 1 rfl) ?_
  refine cG_410 C in_4 hw.1 k_44 dX4_pushRows_14 ?_
  refine lv_iconst (v := (4 : Int32)) hx hb dX4_pushRows_17 (by decide) ?_
  refine va_mmin hx hb (C.2.2.1.trans hl.1.symm) hown (hts (.methodLink RX4 108 yJ9_min_7cf53) (by decide +kernel)) (hts (.static yJ9_min_7cf53) (by decide +kernel)) (hts (.initialized RJ9) (by decide +kernel)) (hts (.code yJ9_min_7cf53 cJ9_min_7cf53 2 (some .int)) (by decide +kernel)) (Nat.le_of_ble_eq_true rfl) (Nat.le_of_ble_eq_true rfl) (Nat.zero_le _) (Nat.zero_le _) dX4_pushRows_18 ?_
  obtain ⟨b_21, h⟩ := chk_of h
  refine cL_404 C hw.1 b_21 dX4_pushRows_21 ?_
  refine lv_istore_n (lv' := [(3, .int (σ.2.2.1 404 (if (4 : Int32) < (σ.1 410) then (4 : Int32) else (σ.1 410)).toNatClampNeg)), (2, .int r_5), (0, .ref (ρ 499)), (1, .int x1)]) hx hb dX4_pushRows_22 rfl hl (by decide) rfl (fun ls hl => ?_)
  refine lv_aload_n hx hb dX4_pushRows_23 rfl (lv_at hl 2 rfl) ?_
  refine cG_410 C in_4 hw.1 k_44 dX4_pushRows_24 ?_
  refine lv_iconst (v := (4 : Int32)) hx hb dX4_pushRows_27 (by decide) ?_
  refine lv_icmp_ge (tgt := 42) hx hb dX4_pushRows_28 (by decide) (fun c_28 => ?_) (fun c_28 => ?_)
  · have h := zz_pos c_28 h
    exact W.vret hx hb hr (fun t ht hW => QC.of rfl (by rw [← some_of h]; exact hw) hg ht hW) hw.2.2.2.2 dX4_pushRows_42
  · have h := zz_neg c_28 h
    refine lv_iload_n hx hb dX4_pushRows_31 rfl (lv_at hl 0 rfl) ?_
    refine lv_iload_n hx hb dX4_pushRows_32 rfl (lv_at hl 1 rfl) ?_
    refine lv_iadd hx hb dX4_pushRows_33 ?_
    refine lv_aload_n hx hb dX4_pushRows_34 rfl (lv_at hl 2 rfl) ?_
    refine cG_402 C in_4 hw.1 k_9 dX4_pushRows_35 ?_
    refine cLen_402 C hw.1 dX4_pushRows_38 ?_
    refine lv_icmp_le (tgt := 43) hx hb dX4_pushRows_39 (by decide) (fun c_39 => ?_) (fun c_39 => ?_)
    · have h := zz_pos c_39 h
      refine lv_iconst (v := (0 : Int32)) hx hb dX4_pushRows_43 (by decide) ?_
      refine lv_istore (lv' := [(4, .int (0 : Int32)), (3, .int (σ.2.2.1 404 (if (4 : Int32) < (σ.1 410) then (4 : Int32) else (σ.1 410)).toNatClampNeg)), (2, .int r_5), (0, .ref (ρ 499)), (1, .int x1)]) hx hb dX4_pushRows_44 hl (by decide) rfl (fun ls hl => ?_)
      refine wR_pushRows_L46 C hr hlk  _ _ _ _ _ _ _ _ _ _ h hw hg (lv_sub hl [3, 4, 2, 1, 0] rfl) ?_
      intro σ x1 x2 x3 g H locs ls h hw hg hl
      refine lv_aload_n hx hb dX4_pushRows_73 rfl (lv_at hl 0 rfl) ?_
      refine cG_405 C in_4 hw.1 k_21 dX4_pushRows_74 ?_
      refine lv_aload_n hx hb dX4_pushRows_77 rfl (lv_at hl 0 rfl) ?_
      refine cG_410 C in_4 hw.1 k_44 dX4_pushRows_78 ?_
      refine lv_iconst (v := (1 : Int32)) hx hb dX4_pushRows_81 (by decide) ?_
      refine lv_iload_n hx hb dX4_pushRows_82 rfl (lv_at hl 1 rfl) ?_
      refine lv_ishl hx hb dX4_pushRows_83 ?_
      obtain ⟨b_84, h⟩ := chk_of h
      refine cS_405 C hw b_84 dX4_pushRows_84 (fun H locs hw => ?_)
      refine lv_aload_n hx hb dX4_pushRows_85 rfl (lv_at hl 0 rfl) ?_
      refine lv_dup hx hb dX4_pushRows_86 rfl ?_
      refine cG_410 C in_4 hw.1 k_44 dX4_pushRows_87 ?_
      refine lv_iconst (v := (1 : Int32)) hx hb dX4_pushRows_90 (by decide) ?_
      refine lv_iadd hx hb dX4_pushRows_91 ?_
      refine cPf_410 C in_4 hw k_44 dX4_pushRows_92 (fun H locs hw => ?_)
      refine lv_aload_n hx hb dX4_pushRows_95 rfl (lv_at hl 0 rfl) ?_
      refine cG_404 C in_4 hw.1 k_18 dX4_pushRows_96 ?_
      refine lv_aload_n hx hb dX4_pushRows_99 rfl (lv_at hl 0 rfl) ?_
      refine cG_410 C in_4 hw.1 k_44 dX4_pushRows_100 ?_
      refine lv_iload_n hx hb dX4_pushRows_103 rfl (lv_at hl 3 rfl) ?_
      refine lv_iload_n hx hb dX4_pushRows_104 rfl (lv_at hl 2 rfl) ?_
      refine lv_iadd hx hb dX4_pushRows_105 ?_
      obtain ⟨b_106, h⟩ := chk_of h
      refine cS_404 C hw b_106 dX4_pushRows_106 (fun H locs hw => ?_)
      refine lv_aload_n hx hb dX4_pushRows_107 rfl (lv_at hl 0 rfl) ?_
      refine lv_dup hx hb dX4_pushRows_108 rfl ?_
      refine cG_400 C in_4 hw.1 k_40 dX4_pushRows_109 ?_
      refine lv_iload_n hx hb dX4_pushRows_112 rfl (lv_at hl 2 rfl) ?_
      refine lv_iadd hx hb dX4_pushRows_113 ?_
      refine cPf_400 C in_4 hw k_40 dX4_pushRows_114 (fun H locs hw => ?_)
      exact W.vret hx hb hr (fun t ht hW => QC.of rfl (by rw [← some_of h]; exact hw) hg ht hW) hw.2.2.2.2 dX4_pushRows_117
    · have h := zz_neg c_39 h
      exact W.vret hx hb hr (fun t ht hW => QC.of rfl (by rw [← some_of h]; exact hw) hg ht hW) hw.2.2.2.2 dX4_pushRows_42
def fR_findBetween_L7 (N : Nat) : Nat → CSt → Int32 → Int32 → Int32 → Option (CSt)
  | 0, _, _, _, _ => none
  | n + 1, σ, x1, x2, x3 => (if (4 : Int32) ≤ x3 then some σ else (fQ_isBetween N σ x3 x1 x2).bind fun r_19 => (if r_19 = 0 then fR_findBetween_L7 N n σ x1 x2 (x3 + 1) else chk (σ.1 409) 4 (fR_findBetween_L7 N n (cI (cA σ 408 (σ.1 409).toNatClampNeg x3) 409 (((cA σ 408 (σ.1 409).toNatClampNeg x3).1 409) + (1 : Int32))) x1 x2 (x3 + 1))))
def fR_findBetween (N : Nat) (σ : CSt) (x1 : Int32) (x2 : Int32) : Option (CSt) := fR_findBetween_L7 N N (cI σ 409 (0 : Int32)) x1 x2 (0 : Int32)
set_option maxRecDepth 100000 in
set_option maxHeartbeats 4000000 in
theorem wR_findBetween_L7 {p : Program} {l : Launch} {e : Env} {s : State} {m : MethodId} {args : Array Value} {below : List Frame} {meth : Method} {c : Code} {D : va_G} {κ : Nat → ClassId} {ρ : Nat → Nat} {g0 : Gh} (C : CallFix p m c cX4_findBetween 4 s args wsX4_findBetween RX4) (hr : meth.sig.returnType = none) (hlk : meth.locks = false) {N : Nat} {q : CSt} : ∀ (n : Nat) (σ : CSt) (x1 : Int32) (x2 : Int32) (x3 : Int32) (g : Gh) (H : Heap) (locs : List Loc) (ls : Array Slot), fR_findBetween_L7 N n σ x1 x2 x3 = some q → WC D κ ρ (AC ρ g0 s.heap.size) s.heap g σ s H locs → sub g0 g → lv_has ls 4 [(0, .ref (ρ 499)), (1, .int x1), (2, .int x2), (3, .int x3)] → W p l e ({ frames := 1, cells := 0, slots := 0, locals := 23 } : Room) s m args below meth c H locs 0 0 (MQ below (QC D κ ρ s.heap.size g0 q none) args s 0 0 (AC ρ g0 s.heap.size)) (F0 m 7 ls []) := by
  have hx := C.1
  have hb := C.2.1
  have hts := C.2.2.2.2
  have hown := C.2.2.2.1
  have k_30 := hts (.fieldLink RX4 30 "PlanCabinet$Runner" "between" "[I") (by decide +kernel)
  have k_33 := hts (.fieldLink RX4 33 "PlanCabinet$Runner" "question" "LPlanCabinet$Question;") (by decide +kernel)
  have k_141 := hts (.fieldLink RX4 141 "PlanCabinet$Runner" "betweenCount" "I") (by decide +kernel)
  have in_4 : ∀ w ∈ wsX40, w ∈ wsX4_findBetween := by decide +kernel
  intro n
  induction n with
  | zero =>
    intro σ x1 x2 x3 g H locs ls h hw hg hl
    rw [fR_findBetween_L7] at h
    cases h
  | succ n ih =>
    intro σ x1 x2 x3 g H locs ls h hw hg hl
    rw [fR_findBetween_L7] at h
    refine lv_iload_n hx hb dX4_findBetween_7 rfl (lv_at hl 3 rfl) ?_
    refine lv_iconst (v := (4 : Int32)) hx hb dX4_findBetween_8 (by decide) ?_
    refine lv_icmp_ge (tgt := 51) hx hb dX4_findBetween_9 (by decide) (fun c_9 => ?_) (fun c_9 => ?_)
    · have h := zz_pos c_9 h
      exact W.vret hx hb hr (fun t ht hW => QC.of rfl (by rw [← some_of h]; exact hw) hg ht hW) hw.2.2.2.2 dX4_findBetween_51
    · have h := zz_neg c_9 h
      refine lv_aload_n hx hb dX4_findBetween_12 rfl (lv_at hl 0 rfl) ?_
      refine cG_401 C in_4 hw.1 k_33 dX4_findBetween_13 ?_
      refine lv_iload_n hx hb dX4_findBetween_16 rfl (lv_at hl 3 rfl) ?_
      refine lv_iload_n hx hb dX4_findBetween_17 rfl (lv_at hl 1 rfl) ?_
      refine lv_iload_n hx hb dX4_findBetween_18 rfl (lv_at hl 2 rfl) ?_
      obtain ⟨r_19, e_19, h⟩ := bnd_of h
      refine callP (W.runV (As := [.int x3, .int x1, .int x2]) C (cQ_isBetween e_19) (cwV 3 hts gX4_findBetween_X3_isBetween rfl rfl rfl (by decide +kernel) ⟨by decide, by decide⟩) (preR (recv_399 hw.1) hw.1) rfl rfl hl.1 rfl (lv_room (Nat.le_of_ble_eq_true rfl)) dX4_findBetween_19 ⟨Nat.zero_le _, Nat.zero_le _⟩) ?_
      refine lv_if_eq (tgt := 45) hx hb dX4_findBetween_22 (by decide) (fun c_22 => ?_) (fun c_22 => ?_)
      · have h := zz_pos c_22 h
        refine lv_iinc (v := (x3 + 1)) (lv' := [(3, .int (x3 + 1)), (0, .ref (ρ 499)), (1, .int x1), (2, .int x2)]) hx hb dX4_findBetween_45 hl (k := 3) rfl rfl (by decide) rfl (fun ls hl => ?_)
        refine lv_goto (tgt := 7) hx hb dX4_findBetween_48 (by decide) ?_
        exact ih _ _ _ _ _ _ _ _ h hw hg (lv_sub hl [1, 2, 3, 0] rfl)
      · have h := zz_neg c_22 h
        refine lv_aload_n hx hb dX4_findBetween_25 rfl (lv_at hl 0 rfl) ?_
        refine cG_408 C in_4 hw.1 k_30 dX4_findBetween_26 ?_
        refine lv_aload_n hx hb dX4_findBetween_29 rfl (lv_at hl 0 rfl) ?_
        refine cG_409 C in_4 hw.1 k_141 dX4_findBetween_30 ?_
        refine lv_iload_n hx hb dX4_findBetween_33 rfl (lv_at hl 3 rfl) ?_
        obtain ⟨b_34, h⟩ := chk_of h
        refine cS_408 C hw b_34 dX4_findBetween_34 (fun H locs hw => ?_)
        refine lv_aload_n hx hb dX4_findBetween_35 rfl (lv_at hl 0 rfl) ?_
        refine lv_dup hx hb dX4_findBetween_36 rfl ?_
        refine cG_409 C in_4 hw.1 k_141 dX4_findBetween_37 ?_
        refine lv_iconst (v := (1 : Int32)) hx hb dX4_findBetween_40 (by decide) ?_
        refine lv_iadd hx hb dX4_findBetween_41 ?_
        refine cPf_409 C in_4 hw k_141 dX4_findBetween_42 (fun H locs hw => ?_)
        refine lv_iinc (v := (x3 + 1)) (lv' := [(3, .int (x3 + 1)), (0, .ref (ρ 499)), (1, .int x1), (2, .int x2)]) hx hb dX4_findBetween_45 hl (k := 3) rfl rfl (by decide) rfl (fun ls hl => ?_)
        refine lv_goto (tgt := 7) hx hb dX4_findBetween_48 (by decide) ?_
        exact ih _ _ _ _ _ _ _ _ h hw hg (lv_sub hl [1, 2, 3, 0] rfl)
set_option maxRecDepth 100000 in
set_option maxHeartbeats 4000000 in
theorem cR_findBetween {l : Launch} {D : va_G} {κ : Nat → ClassId} {ρ : Nat → Nat} {g0 : Gh} {sz : Nat} {N : Nat} {σ : CSt} {x1 : Int32} {x2 : Int32} {q : CSt} (h : fR_findBetween N σ x1 x2 = some q) : Met l yX4_findBetween wsX4_findBetween ({ frames := 1, cells := 0, slots := 0, locals := 23 } : Room) (va_Pc [.ref (ρ 499), .int x1, .int x2] (PC D κ ρ sz g0 σ)) (QC D κ ρ sz g0 q none) 0 0 (AC ρ g0 sz) := by
  refine cMetM (Qc := fun z => QC D κ ρ z g0 q none) (ret := none) (by decide) rfl rfl (Nat.le_of_ble_eq_true rfl) ?_
  intro p e s m below meth c ls C hr hlk hw hl
  obtain ⟨g, eg⟩ : ∃ x, x = g0 := ⟨_, rfl⟩
  have hw : WC D κ ρ (AC ρ g0 s.heap.size) s.heap g σ s s.heap [] := by rw [eg]; exact hw
  have hg : sub g0 g := by rw [eg]; exact sub_rf g0
  have hl : lv_has ls 4 [(0, .ref (ρ 499)), (1, .int x1), (2, .int x2)] := hl
  unfold fR_findBetween at h
  have hx := C.1
  have hb := C.2.1
  have hts := C.2.2.2.2
  have hown := C.2.2.2.1
  have k_141 := hts (.fieldLink RX4 141 "PlanCabinet$Runner" "betweenCount" "I") (by decide +kernel)
  have in_4 : ∀ w ∈ wsX40, w ∈ wsX4_findBetween := by decide +kernel
  refine lv_aload_n hx hb dX4_findBetween_0 rfl (lv_at hl 0 rfl) ?_
  refine lv_iconst (v := (0 : Int32)) hx hb dX4_findBetween_1 (by decide) ?_
  refine cPf_409 C in_4 hw k_141 dX4_findBetween_2 (fun H locs hw => ?_)
  refine lv_iconst (v := (0 : Int32)) hx hb dX4_findBetween_5 (by decide) ?_
  refine lv_istore_n (lv' := [(3, .int (0 : Int32)), (0, .ref (ρ 499)), (1, .int x1), (2, .int x2)]) hx hb dX4_findBetween_6 rfl hl (by decide) rfl (fun ls hl => ?_)
  exact wR_findBetween_L7 C hr hlk  _ _ _ _ _ _ _ _ _ h hw hg (lv_sub hl [1, 2, 3, 0] rfl)
def fR_joinSteps (N : Nat) (x0 : Int32) (x1 : Int32) (x2 : Int32) : Option (Int32) := (if x0 = 0 then some (x1 * x2) else (if x0 = (1 : Int32) then some ((2 : Int32) * (x1 + x2)) else some ((3 : Int32) * (x1 + x2))))
set_option maxRecDepth 100000 in
set_option maxHeartbeats 4000000 in
theorem cR_joinSteps {l : Launch} {N : Nat}  {x0 : Int32} {x1 : Int32} {x2 : Int32} {r : Int32} (h : fR_joinSteps N x0 x1 x2 = some r) : Met l yX4_joinSteps wsX4_joinSteps ({ frames := 0, cells := 0, slots := 0, locals := 0 } : Room) (va_Pc [.int x0, .int x1, .int x2] (fun _ => True)) (PU (some (.int r))) 0 0 (fun _ => False) := by
  refine sMet (ret := (some .int)) (by decide) rfl rfl (Nat.le_of_ble_eq_true rfl) ?_
  intro p e s m below meth c ls C hr hlk hl
  have hl : lv_has ls 3 [(0, .int x0), (1, .int x1), (2, .int x2)] := hl
  unfold fR_joinSteps at h
  have hx := C.1
  have hb := C.2.1
  have hts := C.2.2.2.2
  have hown := C.2.2.2.1
  refine lv_iload_n hx hb dX4_joinSteps_0 rfl (lv_at hl 0 rfl) ?_
  refine lv_if_ne (tgt := 8) hx hb dX4_joinSteps_1 (by decide) (fun c_1 => ?_) (fun c_1 => ?_)
  · have h := zz_neg c_1 h
    refine lv_iload_n hx hb dX4_joinSteps_8 rfl (lv_at hl 0 rfl) ?_
    refine lv_iconst (v := (1 : Int32)) hx hb dX4_joinSteps_9 (by decide) ?_
    refine lv_icmp_ne (tgt := 17) hx hb dX4_joinSteps_10 (by decide) (fun c_10 => ?_) (fun c_10 => ?_)
    · have h := zz_neg c_10 h
      refine lv_iconst (v := (3 : Int32)) hx hb dX4_joinSteps_17 (by decide) ?_
      refine lv_iload_n hx hb dX4_joinSteps_18 rfl (lv_at hl 1 rfl) ?_
      refine lv_iload_n hx hb dX4_joinSteps_19 rfl (lv_at hl 2 rfl) ?_
      refine lv_iadd hx hb dX4_joinSteps_20 ?_
      refine lv_imul hx hb dX4_joinSteps_21 ?_
      exact W.iret hx hb hr (fun t ht hW => ⟨by rw [some_of h], ht⟩) (fun _ h => by cases h) dX4_joinSteps_22
    · have h := zz_pos c_10 h
      refine lv_iconst (v := (2 : Int32)) hx hb dX4_joinSteps_13 (by decide) ?_
      refine lv_goto (tgt := 18) hx hb dX4_joinSteps_14 (by decide) ?_
      refine lv_iload_n hx hb dX4_joinSteps_18 rfl (lv_at hl 1 rfl) ?_
      refine lv_iload_n hx hb dX4_joinSteps_19 rfl (lv_at hl 2 rfl) ?_
      refine lv_iadd hx hb dX4_joinSteps_20 ?_
      refine lv_imul hx hb dX4_joinSteps_21 ?_
      exact W.iret hx hb hr (fun t ht hW => ⟨by rw [some_of h], ht⟩) (fun _ h => by cases h) dX4_joinSteps_22
  · have h := zz_pos c_1 h
    refine lv_iload_n hx hb dX4_joinSteps_4 rfl (lv_at hl 1 rfl) ?_
    refine lv_iload_n hx hb dX4_joinSteps_5 rfl (lv_at hl 2 rfl) ?_
    refine lv_imul hx hb dX4_joinSteps_6 ?_
    exact W.iret hx hb hr (fun t ht hW => ⟨by rw [some_of h], ht⟩) (fun _ h => by cases h) dX4_joinSteps_7
def fR_findRanks_L14 (N : Nat) (K60 : CSt → Int32 → Int32 → Int32 → Int32 → Option (CSt)) : Nat → CSt → Int32 → Int32 → Int32 → Int32 → Int32 → Option (CSt)
  | 0, _, _, _, _, _, _ => none
  | n + 1, σ, x1, x2, x3, x4, x5 => (fQ_rowsOf N σ x1).bind fun r_21 => (if r_21 ≤ x5 then K60 σ x1 x2 x3 x4 else (fQ_field N σ x1 x5 x2).bind fun r_35 => (fQ_field N σ x1 x3 x2).bind fun r_45 => (if r_45 ≤ r_35 then fR_findRanks_L14 N K60 n σ x1 x2 x3 x4 (x5 + 1) else fR_findRanks_L14 N K60 n σ x1 x2 x3 (x4 + 1) (x5 + 1)))
def fR_findRanks_L2 (N : Nat) : Nat → CSt → Int32 → Int32 → Int32 → Option (CSt)
  | 0, _, _, _, _ => none
  | n + 1, σ, x1, x2, x3 => (if (8 : Int32) ≤ x3 then some σ else fR_findRanks_L14 N (fun (σ : CSt) (x1 : Int32) (x2 : Int32) (x3 : Int32) (x4 : Int32) => chk x3 8 (fR_findRanks_L2 N n (cA σ 406 x3.toNatClampNeg (if (7 : Int32) < x4 then (7 : Int32) else x4)) x1 x2 (x3 + 1))) N σ x1 x2 x3 (0 : Int32) (0 : Int32))
def fR_findRanks (N : Nat) (σ : CSt) (x1 : Int32) (x2 : Int32) : Option (CSt) := fR_findRanks_L2 N N σ x1 x2 (0 : Int32)
set_option maxRecDepth 100000 in
set_option maxHeartbeats 4000000 in
theorem wR_findRanks_L14 {p : Program} {l : Launch} {e : Env} {s : State} {m : MethodId} {args : Array Value} {below : List Frame} {meth : Method} {c : Code} {D : va_G} {κ : Nat → ClassId} {ρ : Nat → Nat} {g0 : Gh} (C : CallFix p m c cX4_findRanks 6 s args wsX4_findRanks RX4) (hr : meth.sig.returnType = none) (hlk : meth.locks = false) {N : Nat} {q : CSt} {K60 : CSt → Int32 → Int32 → Int32 → Int32 → Option (CSt)} : ∀ (n : Nat) (σ : CSt) (x1 : Int32) (x2 : Int32) (x3 : Int32) (x4 : Int32) (x5 : Int32) (g : Gh) (H : Heap) (locs : List Loc) (ls : Array Slot), fR_findRanks_L14 N K60 n σ x1 x2 x3 x4 x5 = some q → WC D κ ρ (AC ρ g0 s.heap.size) s.heap g σ s H locs → sub g0 g → lv_has ls 6 [(0, .ref (ρ 499)), (1, .int x1), (2, .int x2), (3, .int x3), (4, .int x4), (5, .int x5)] → (∀ (σ : CSt) (x1 : Int32) (x2 : Int32) (x3 : Int32) (x4 : Int32) (g : Gh) (H : Heap) (locs : List Loc) (ls : Array Slot), K60 σ x1 x2 x3 x4 = some q → WC D κ ρ (AC ρ g0 s.heap.size) s.heap g σ s H locs → sub g0 g → lv_has ls 6 [(0, .ref (ρ 499)), (1, .int x1), (2, .int x2), (3, .int x3), (4, .int x4)] → W p l e ({ frames := 2, cells := 0, slots := 0, locals := 42 } : Room) s m args below meth c H locs 0 0 (MQ below (QC D κ ρ s.heap.size g0 q none) args s 0 0 (AC ρ g0 s.heap.size)) (F0 m 60 ls [])) → W p l e ({ frames := 2, cells := 0, slots := 0, locals := 42 } : Room) s m args below meth c H locs 0 0 (MQ below (QC D κ ρ s.heap.size g0 q none) args s 0 0 (AC ρ g0 s.heap.size)) (F0 m 14 ls []) := by
  have hx := C.1
  have hb := C.2.1
  have hts := C.2.2.2.2
  have hown := C.2.2.2.1
  have k_33 := hts (.fieldLink RX4 33 "PlanCabinet$Runner" "question" "LPlanCabinet$Question;") (by decide +kernel)
  have in_4 : ∀ w ∈ wsX40, w ∈ wsX4_findRanks := by decide +kernel
  intro n
  induction n with
  | zero =>
    intro σ x1 x2 x3 x4 x5 g H locs ls h hw hg hl hK60
    rw [fR_findRanks_L14] at h
    cases h
  | succ n ih =>
    intro σ x1 x2 x3 x4 x5 g H locs ls h hw hg hl hK60
    rw [fR_findRanks_L14] at h
    refine lv_iload hx hb dX4_findRanks_14 (lv_at hl 5 rfl) ?_
    refine lv_aload_n hx hb dX4_findRanks_16 rfl (lv_at hl 0 rfl) ?_
    refine cG_401 C in_4 hw.1 k_33 dX4_findRanks_17 ?_
    refine lv_iload_n hx hb dX4_findRanks_20 rfl (lv_at hl 1 rfl) ?_
    obtain ⟨r_21, e_21, h⟩ := bnd_of h
    refine callP (W.runV (As := [.int x1]) C (cQ_rowsOf e_21) (cwV 1 hts gX4_findRanks_X3_rowsOf rfl rfl rfl (by decide +kernel) ⟨by decide, by decide⟩) (preR (recv_399 hw.1) hw.1) rfl rfl hl.1 rfl (lv_room (Nat.le_of_ble_eq_true rfl)) dX4_findRanks_21 ⟨Nat.zero_le _, Nat.zero_le _⟩) ?_
    refine lv_icmp_ge (tgt := 60) hx hb dX4_findRanks_24 (by decide) (fun c_24 => ?_) (fun c_24 => ?_)
    · have h := zz_pos c_24 h
      exact hK60 _ _ _ _ _ _ _ _ _ h hw hg (lv_sub hl [0, 1, 2, 3, 4] rfl)
    · have h := zz_neg c_24 h
      refine lv_aload_n hx hb dX4_findRanks_27 rfl (lv_at hl 0 rfl) ?_
      refine cG_401 C in_4 hw.1 k_33 dX4_findRanks_28 ?_
      refine lv_iload_n hx hb dX4_findRanks_31 rfl (lv_at hl 1 rfl) ?_
      refine lv_iload hx hb dX4_findRanks_32 (lv_at hl 5 rfl) ?_
      refine lv_iload_n hx hb dX4_findRanks_34 rfl (lv_at hl 2 rfl) ?_
      obtain ⟨r_35, e_35, h⟩ := bnd_of h
      refine callP (W.runV (As := [.int x1, .int x5, .int x2]) C (cQ_field e_35) (cwV 3 hts gX4_findRanks_X3_field rfl rfl rfl (by decide +kernel) ⟨by decide, by decide⟩) (preR (recv_399 hw.1) hw.1) rfl rfl hl.1 rfl (lv_room (Nat.le_of_ble_eq_true rfl)) dX4_findRanks_35 ⟨Nat.zero_le _, Nat.zero_le _⟩) ?_
      refine lv_aload_n hx hb dX4_findRanks_38 rfl (lv_at hl 0 rfl) ?_
      refine cG_401 C in_4 hw.1 k_33 dX4_findRanks_39 ?_
      refine lv_iload_n hx hb dX4_findRanks_42 rfl (lv_at hl 1 rfl) ?_
      refine lv_iload_n hx hb dX4_findRanks_43 rfl (lv_at hl 3 rfl) ?_
      refine lv_iload_n hx hb dX4_findRanks_44 rfl (lv_at hl 2 rfl) ?_
      obtain ⟨r_45, e_45, h⟩ := bnd_of h
      refine callP (W.runV (As := [.int x1, .int x3, .int x2]) C (cQ_field e_45) (cwV 3 hts gX4_findRanks_X3_field rfl rfl rfl (by decide +kernel) ⟨by decide, by decide⟩) (preR (recv_399 hw.1) hw.1) rfl rfl hl.1 rfl (lv_room (Nat.le_of_ble_eq_true rfl)) dX4_findRanks_45 ⟨Nat.zero_le _, Nat.zero_le _⟩) ?_
      refine lv_icmp_ge (tgt := 54) hx hb dX4_findRanks_48 (by decide) (fun c_48 => ?_) (fun c_48 => ?_)
      · have h := zz_pos c_48 h
        refine lv_iinc (v := (x5 + 1)) (lv' := [(5, .int (x5 + 1)), (0, .ref (ρ 499)), (1, .int x1), (2, .int x2), (3, .int x3), (4, .int x4)]) hx hb dX4_findRanks_54 hl (k := 5) rfl rfl (by decide) rfl (fun ls hl => ?_)
        refine lv_goto (tgt := 14) hx hb dX4_findRanks_57 (by decide) ?_
        exact ih _ _ _ _ _ _ _ _ _ _ h hw hg (lv_sub hl [1, 2, 3, 4, 5, 0] rfl) hK60
      · have h := zz_neg c_48 h
        refine lv_iinc (v := (x4 + 1)) (lv' := [(4, .int (x4 + 1)), (0, .ref (ρ 499)), (1, .int x1), (2, .int x2), (3, .int x3), (5, .int x5)]) hx hb dX4_findRanks_51 hl (k := 4) rfl rfl (by decide) rfl (fun ls hl => ?_)
        refine lv_iinc (v := (x5 + 1)) (lv' := [(5, .int (x5 + 1)), (4, .int (x4 + 1)), (0, .ref (ρ 499)), (1, .int x1), (2, .int x2), (3, .int x3)]) hx hb dX4_findRanks_54 hl (k := 5) rfl rfl (by decide) rfl (fun ls hl => ?_)
        refine lv_goto (tgt := 14) hx hb dX4_findRanks_57 (by decide) ?_
        exact ih _ _ _ _ _ _ _ _ _ _ h hw hg (lv_sub hl [2, 3, 4, 5, 1, 0] rfl) hK60
set_option maxRecDepth 100000 in
set_option maxHeartbeats 4000000 in
theorem wR_findRanks_L2 {p : Program} {l : Launch} {e : Env} {s : State} {m : MethodId} {args : Array Value} {below : List Frame} {meth : Method} {c : Code} {D : va_G} {κ : Nat → ClassId} {ρ : Nat → Nat} {g0 : Gh} (C : CallFix p m c cX4_findRanks 6 s args wsX4_findRanks RX4) (hr : meth.sig.returnType = none) (hlk : meth.locks = false) {N : Nat} {q : CSt} : ∀ (n : Nat) (σ : CSt) (x1 : Int32) (x2 : Int32) (x3 : Int32) (g : Gh) (H : Heap) (locs : List Loc) (ls : Array Slot), fR_findRanks_L2 N n σ x1 x2 x3 = some q → WC D κ ρ (AC ρ g0 s.heap.size) s.heap g σ s H locs → sub g0 g → lv_has ls 6 [(0, .ref (ρ 499)), (1, .int x1), (2, .int x2), (3, .int x3)] → W p l e ({ frames := 2, cells := 0, slots := 0, locals := 42 } : Room) s m args below meth c H locs 0 0 (MQ below (QC D κ ρ s.heap.size g0 q none) args s 0 0 (AC ρ g0 s.heap.size)) (F0 m 2 ls []) := by
  have hx := C.1
  have hb := C.2.1
  have hts := C.2.2.2.2
  have hown := C.2.2.2.1
  have k_24 := hts (.fieldLink RX4 24 "PlanCabinet$Runner" "ranks" "[I") (by decide +kernel)
  have in_4 : ∀ w ∈ wsX40, w ∈ wsX4_findRanks := by decide +kernel
  intro n
  induction n with
  | zero =>
    intro σ x1 x2 x3 g H locs ls h hw hg hl
    rw [fR_findRanks_L2] at h
    cases h
  | succ n ih =>
    intro σ x1 x2 x3 g H locs ls h hw hg hl
    rw [fR_findRanks_L2] at h
    refine lv_iload_n hx hb dX4_findRanks_2 rfl (lv_at hl 3 rfl) ?_
    refine lv_bipush (v := (8 : Int32)) hx hb dX4_findRanks_3 (by decide) ?_
    refine lv_icmp_ge (tgt := 79) hx hb dX4_findRanks_5 (by decide) (fun c_5 => ?_) (fun c_5 => ?_)
    · have h := zz_pos c_5 h
      exact W.vret hx hb hr (fun t ht hW => QC.of rfl (by rw [← some_of h]; exact hw) hg ht hW) hw.2.2.2.2 dX4_findRanks_79
    · have h := zz_neg c_5 h
      refine lv_iconst (v := (0 : Int32)) hx hb dX4_findRanks_8 (by decide) ?_
      refine lv_istore (lv' := [(4, .int (0 : Int32)), (0, .ref (ρ 499)), (1, .int x1), (2, .int x2), (3, .int x3)]) hx hb dX4_findRanks_9 hl (by decide) rfl (fun ls hl => ?_)
      refine lv_iconst (v := (0 : Int32)) hx hb dX4_findRanks_11 (by decide) ?_
      refine lv_istore (lv' := [(5, .int (0 : Int32)), (4, .int (0 : Int32)), (0, .ref (ρ 499)), (1, .int x1), (2, .int x2), (3, .int x3)]) hx hb dX4_findRanks_12 hl (by decide) rfl (fun ls hl => ?_)
      refine wR_findRanks_L14 C hr hlk  _ _ _ _ _ _ _ _ _ _ _ h hw hg (lv_sub hl [2, 3, 4, 5, 1, 0] rfl) ?_
      intro σ x1 x2 x3 x4 g H locs ls h hw hg hl
      refine lv_aload_n hx hb dX4_findRanks_60 rfl (lv_at hl 0 rfl) ?_
      refine cG_406 C in_4 hw.1 k_24 dX4_findRanks_61 ?_
      refine lv_iload_n hx hb dX4_findRanks_64 rfl (lv_at hl 3 rfl) ?_
      refine lv_iload hx hb dX4_findRanks_65 (lv_at hl 4 rfl) ?_
      refine lv_bipush (v := (7 : Int32)) hx hb dX4_findRanks_67 (by decide) ?_
      refine va_mmin hx hb (C.2.2.1.trans hl.1.symm) hown (hts (.methodLink RX4 108 yJ9_min_7cf53) (by decide +kernel)) (hts (.static yJ9_min_7cf53) (by decide +kernel)) (hts (.initialized RJ9) (by decide +kernel)) (hts (.code yJ9_min_7cf53 cJ9_min_7cf53 2 (some .int)) (by decide +kernel)) (Nat.le_of_ble_eq_true rfl) (Nat.le_of_ble_eq_true rfl) (Nat.zero_le _) (Nat.zero_le _) dX4_findRanks_69 ?_
      obtain ⟨b_72, h⟩ := chk_of h
      refine cS_406 C hw b_72 dX4_findRanks_72 (fun H locs hw => ?_)
      refine lv_iinc (v := (x3 + 1)) (lv' := [(3, .int (x3 + 1)), (0, .ref (ρ 499)), (1, .int x1), (2, .int x2), (4, .int x4)]) hx hb dX4_findRanks_73 hl (k := 3) rfl rfl (by decide) rfl (fun ls hl => ?_)
      refine lv_goto (tgt := 2) hx hb dX4_findRanks_76 (by decide) ?_
      exact ih _ _ _ _ _ _ _ _ h hw hg (lv_sub hl [1, 2, 3, 0] rfl)
set_option maxRecDepth 100000 in
set_option maxHeartbeats 4000000 in
theorem cR_findRanks {l : Launch} {D : va_G} {κ : Nat → ClassId} {ρ : Nat → Nat} {g0 : Gh} {sz : Nat} {N : Nat} {σ : CSt} {x1 : Int32} {x2 : Int32} {q : CSt} (h : fR_findRanks N σ x1 x2 = some q) : Met l yX4_findRanks wsX4_findRanks ({ frames := 2, cells := 0, slots := 0, locals := 42 } : Room) (va_Pc [.ref (ρ 499), .int x1, .int x2] (PC D κ ρ sz g0 σ)) (QC D κ ρ sz g0 q none) 0 0 (AC ρ g0 sz) := by
  refine cMetM (Qc := fun z => QC D κ ρ z g0 q none) (ret := none) (by decide) rfl rfl (Nat.le_of_ble_eq_true rfl) ?_
  intro p e s m below meth c ls C hr hlk hw hl
  obtain ⟨g, eg⟩ : ∃ x, x = g0 := ⟨_, rfl⟩
  have hw : WC D κ ρ (AC ρ g0 s.heap.size) s.heap g σ s s.heap [] := by rw [eg]; exact hw
  have hg : sub g0 g := by rw [eg]; exact sub_rf g0
  have hl : lv_has ls 6 [(0, .ref (ρ 499)), (1, .int x1), (2, .int x2)] := hl
  unfold fR_findRanks at h
  have hx := C.1
  have hb := C.2.1
  have hts := C.2.2.2.2
  have hown := C.2.2.2.1
  refine lv_iconst (v := (0 : Int32)) hx hb dX4_findRanks_0 (by decide) ?_
  refine lv_istore_n (lv' := [(3, .int (0 : Int32)), (0, .ref (ρ 499)), (1, .int x1), (2, .int x2)]) hx hb dX4_findRanks_1 rfl hl (by decide) rfl (fun ls hl => ?_)
  exact wR_findRanks_L2 C hr hlk  _ _ _ _ _ _ _ _ _ h hw hg (lv_sub hl [1, 2, 3, 0] rfl)
def fR_sort_L48 (N : Nat) (K69 : CSt → Int32 → Int32 → Int32 → Option (CSt)) : Nat → CSt → Int32 → Int32 → Int32 → Int32 → Option (CSt)
  | 0, _, _, _, _, _ => none
  | n + 1, σ, x1, x2, x3, x5 => (if (8 : Int32) < x5 then K69 σ x1 x2 x3 else chk x5 9 (fR_sort_L48 N K69 n (cA σ 407 x5.toNatClampNeg (0 : Int32)) x1 x2 x3 (x5 + 1)))
def fR_sort_L72 (N : Nat) (K111 : CSt → Int32 → Int32 → Int32 → Option (CSt)) : Nat → CSt → Int32 → Int32 → Int32 → Int32 → Option (CSt)
  | 0, _, _, _, _, _ => none
  | n + 1, σ, x1, x2, x3, x5 => (if x2 ≤ x5 then K111 σ x1 x2 x3 else chk x5 (σ.2.2.2.2.2 402) ((fQ_rowIn N (σ.2.2.1 402 x5.toNatClampNeg) x3).bind fun r_94 => chk r_94 8 (chk ((σ.2.2.1 406 r_94.toNatClampNeg) + (1 : Int32)) 9 (chk ((σ.2.2.1 406 r_94.toNatClampNeg) + (1 : Int32)) 9 (fR_sort_L72 N K111 n (cA σ 407 ((σ.2.2.1 406 r_94.toNatClampNeg) + (1 : Int32)).toNatClampNeg ((σ.2.2.1 407 ((σ.2.2.1 406 r_94.toNatClampNeg) + (1 : Int32)).toNatClampNeg) + (1 : Int32))) x1 x2 x3 (x5 + 1))))))
def fR_sort_L114 (N : Nat) (K146 : CSt → Int32 → Int32 → Int32 → Option (CSt)) : Nat → CSt → Int32 → Int32 → Int32 → Int32 → Option (CSt)
  | 0, _, _, _, _, _ => none
  | n + 1, σ, x1, x2, x3, x5 => (if (8 : Int32) < x5 then K146 σ x1 x2 x3 else chk x5 9 (chk (x5 - (1 : Int32)) 9 (chk x5 9 (fR_sort_L114 N K146 n (cA σ 407 x5.toNatClampNeg ((σ.2.2.1 407 x5.toNatClampNeg) + (σ.2.2.1 407 (x5 - (1 : Int32)).toNatClampNeg))) x1 x2 x3 (x5 + 1)))))
def fR_sort_L149 (N : Nat) (K209 : CSt → Int32 → Int32 → Option (CSt)) : Nat → CSt → Int32 → Int32 → Int32 → Int32 → Option (CSt)
  | 0, _, _, _, _, _ => none
  | n + 1, σ, x1, x2, x3, x5 => (if x2 ≤ x5 then K209 σ x1 x2 else chk x5 (σ.2.2.2.2.2 402) ((fQ_rowIn N (σ.2.2.1 402 x5.toNatClampNeg) x3).bind fun r_167 => chk r_167 8 (chk (σ.2.2.1 406 r_167.toNatClampNeg) 9 (chk x5 (σ.2.2.2.2.2 402) (chk (σ.2.2.1 407 (σ.2.2.1 406 r_167.toNatClampNeg).toNatClampNeg) (σ.2.2.2.2.2 403) (chk (σ.2.2.1 406 r_167.toNatClampNeg) 9 (chk (σ.2.2.1 406 r_167.toNatClampNeg) 9 (fR_sort_L149 N K209 n (cA (cA σ 403 (σ.2.2.1 407 (σ.2.2.1 406 r_167.toNatClampNeg).toNatClampNeg).toNatClampNeg (σ.2.2.1 402 x5.toNatClampNeg)) 407 (σ.2.2.1 406 r_167.toNatClampNeg).toNatClampNeg (((cA σ 403 (σ.2.2.1 407 (σ.2.2.1 406 r_167.toNatClampNeg).toNatClampNeg).toNatClampNeg (σ.2.2.1 402 x5.toNatClampNeg)).2.2.1 407 (σ.2.2.1 406 r_167.toNatClampNeg).toNatClampNeg) + (1 : Int32))) x1 x2 x3 (x5 + 1)))))))))
def fR_sort (N : Nat) (σ : CSt) (x1 : Int32) (x2 : Int32) (x3 : Int32) (x4 : Int32) : Option (CSt) := (fQ_isField N σ x3 x4).bind fun r_7 => (if r_7 = 0 then some σ else (if x1 < 0 then some σ else (if (Int32.ofNat (σ.2.2.2.2.2 402)) < x2 then some σ else (if (x2 - x1) ≤ (Int32.ofNat (σ.2.2.2.2.2 403)) then (fR_findRanks N σ x3 x4).bind fun r_42 => fR_sort_L48 N (fun (σ : CSt) (x1 : Int32) (x2 : Int32) (x3 : Int32) => fR_sort_L72 N (fun (σ : CSt) (x1 : Int32) (x2 : Int32) (x3 : Int32) => fR_sort_L114 N (fun (σ : CSt) (x1 : Int32) (x2 : Int32) (x3 : Int32) => fR_sort_L149 N (fun (σ : CSt) (x1 : Int32) (x2 : Int32) => cpk (σ.2.2.2.2.2 403) (σ.2.2.2.2.2 402) (0 : Int32) x1 (if (0 : Int32) < (x2 - x1) then (x2 - x1) else (0 : Int32)) (some (cX σ 402 (va_cpy (σ.2.2.1 403) (σ.2.2.1 402) (0 : Int32).toNatClampNeg x1.toNatClampNeg (if (0 : Int32) < (x2 - x1) then (x2 - x1) else (0 : Int32)).toNatClampNeg)))) N σ x1 x2 x3 x1) N σ x1 x2 x3 (1 : Int32)) N σ x1 x2 x3 x1) N r_42 x1 x2 x3 (0 : Int32) else some σ))))
set_option maxRecDepth 100000 in
set_option maxHeartbeats 4000000 in
theorem wR_sort_L48 {p : Program} {l : Launch} {e : Env} {s : State} {m : MethodId} {args : Array Value} {below : List Frame} {meth : Method} {c : Code} {D : va_G} {κ : Nat → ClassId} {ρ : Nat → Nat} {g0 : Gh} (C : CallFix p m c cX4_sort 7 s args wsX4_sort RX4) (hr : meth.sig.returnType = none) (hlk : meth.locks = false) {N : Nat} {q : CSt} {K69 : CSt → Int32 → Int32 → Int32 → Option (CSt)} : ∀ (n : Nat) (σ : CSt) (x1 : Int32) (x2 : Int32) (x3 : Int32) (x5 : Int32) (g : Gh) (H : Heap) (locs : List Loc) (ls : Array Slot), fR_sort_L48 N K69 n σ x1 x2 x3 x5 = some q → WC D κ ρ (AC ρ g0 s.heap.size) s.heap g σ s H locs → sub g0 g → lv_has ls 7 [(0, .ref (ρ 499)), (1, .int x1), (2, .int x2), (3, .int x3), (5, .int x5)] → (∀ (σ : CSt) (x1 : Int32) (x2 : Int32) (x3 : Int32) (g : Gh) (H : Heap) (locs : List Loc) (ls : Array Slot), K69 σ x1 x2 x3 = some q → WC D κ ρ (AC ρ g0 s.heap.size) s.heap g σ s H locs → sub g0 g → lv_has ls 7 [(0, .ref (ρ 499)), (1, .int x1), (2, .int x2), (3, .int x3)] → W p l e ({ frames := 3, cells := 0, slots := 0, locals := 67 } : Room) s m args below meth c H locs 0 0 (MQ below (QC D κ ρ s.heap.size g0 q none) args s 0 0 (AC ρ g0 s.heap.size)) (F0 m 69 ls [])) → W p l e ({ frames := 3, cells := 0, slots := 0, locals := 67 } : Room) s m args below meth c H locs 0 0 (MQ below (QC D κ ρ s.heap.size g0 q none) args s 0 0 (AC ρ g0 s.heap.size)) (F0 m 48 ls []) := by
  have hx := C.1
  have hb := C.2.1
  have hts := C.2.2.2.2
  have hown := C.2.2.2.1
  have k_27 := hts (.fieldLink RX4 27 "PlanCabinet$Runner" "places" "[I") (by decide +kernel)
  have in_4 : ∀ w ∈ wsX40, w ∈ wsX4_sort := by decide +kernel
  intro n
  induction n with
  | zero =>
    intro σ x1 x2 x3 x5 g H locs ls h hw hg hl hK69
    rw [fR_sort_L48] at h
    cases h
  | succ n ih =>
    intro σ x1 x2 x3 x5 g H locs ls h hw hg hl hK69
    rw [fR_sort_L48] at h
    refine lv_iload hx hb dX4_sort_48 (lv_at hl 4 rfl) ?_
    refine lv_bipush (v := (8 : Int32)) hx hb dX4_sort_50 (by decide) ?_
    refine lv_icmp_gt (tgt := 69) hx hb dX4_sort_52 (by decide) (fun c_52 => ?_) (fun c_52 => ?_)
    · have h := zz_pos c_52 h
      exact hK69 _ _ _ _ _ _ _ _ h hw hg (lv_sub hl [0, 1, 2, 3] rfl)
    · have h := zz_neg c_52 h
      refine lv_aload_n hx hb dX4_sort_55 rfl (lv_at hl 0 rfl) ?_
      refine cG_407 C in_4 hw.1 k_27 dX4_sort_56 ?_
      refine lv_iload hx hb dX4_sort_59 (lv_at hl 4 rfl) ?_
      refine lv_iconst (v := (0 : Int32)) hx hb dX4_sort_61 (by decide) ?_
      obtain ⟨b_62, h⟩ := chk_of h
      refine cS_407 C hw b_62 dX4_sort_62 (fun H locs hw => ?_)
      refine lv_iinc (v := (x5 + 1)) (lv' := [(5, .int (x5 + 1)), (0, .ref (ρ 499)), (1, .int x1), (2, .int x2), (3, .int x3)]) hx hb dX4_sort_63 hl (k := 4) rfl rfl (by decide) rfl (fun ls hl => ?_)
      refine lv_goto (tgt := 48) hx hb dX4_sort_66 (by decide) ?_
      exact ih _ _ _ _ _ _ _ _ _ h hw hg (lv_sub hl [1, 2, 3, 4, 0] rfl) hK69
set_option maxRecDepth 100000 in
set_option maxHeartbeats 4000000 in
theorem wR_sort_L72 {p : Program} {l : Launch} {e : Env} {s : State} {m : MethodId} {args : Array Value} {below : List Frame} {meth : Method} {c : Code} {D : va_G} {κ : Nat → ClassId} {ρ : Nat → Nat} {g0 : Gh} (C : CallFix p m c cX4_sort 7 s args wsX4_sort RX4) (hr : meth.sig.returnType = none) (hlk : meth.locks = false) {N : Nat} {q : CSt} {K111 : CSt → Int32 → Int32 → Int32 → Option (CSt)} : ∀ (n : Nat) (σ : CSt) (x1 : Int32) (x2 : Int32) (x3 : Int32) (x5 : Int32) (g : Gh) (H : Heap) (locs : List Loc) (ls : Array Slot), fR_sort_L72 N K111 n σ x1 x2 x3 x5 = some q → WC D κ ρ (AC ρ g0 s.heap.size) s.heap g σ s H locs → sub g0 g → lv_has ls 7 [(0, .ref (ρ 499)), (1, .int x1), (2, .int x2), (3, .int x3), (5, .int x5)] → (∀ (σ : CSt) (x1 : Int32) (x2 : Int32) (x3 : Int32) (g : Gh) (H : Heap) (locs : List Loc) (ls : Array Slot), K111 σ x1 x2 x3 = some q → WC D κ ρ (AC ρ g0 s.heap.size) s.heap g σ s H locs → sub g0 g → lv_has ls 7 [(0, .ref (ρ 499)), (1, .int x1), (2, .int x2), (3, .int x3)] → W p l e ({ frames := 3, cells := 0, slots := 0, locals := 67 } : Room) s m args below meth c H locs 0 0 (MQ below (QC D κ ρ s.heap.size g0 q none) args s 0 0 (AC ρ g0 s.heap.size)) (F0 m 111 ls [])) → W p l e ({ frames := 3, cells := 0, slots := 0, locals := 67 } : Room) s m args below meth c H locs 0 0 (MQ below (QC D κ ρ s.heap.size g0 q none) args s 0 0 (AC ρ g0 s.heap.size)) (F0 m 72 ls []) := by
  have hx := C.1
  have hb := C.2.1
  have hts := C.2.2.2.2
  have hown := C.2.2.2.1
  have k_9 := hts (.fieldLink RX4 9 "PlanCabinet$Runner" "stack" "[I") (by decide +kernel)
  have k_24 := hts (.fieldLink RX4 24 "PlanCabinet$Runner" "ranks" "[I") (by decide +kernel)
  have k_27 := hts (.fieldLink RX4 27 "PlanCabinet$Runner" "places" "[I") (by decide +kernel)
  have in_4 : ∀ w ∈ wsX40, w ∈ wsX4_sort := by decide +kernel
  intro n
  induction n with
  | zero =>
    intro σ x1 x2 x3 x5 g H locs ls h hw hg hl hK111
    rw [fR_sort_L72] at h
    cases h
  | succ n ih =>
    intro σ x1 x2 x3 x5 g H locs ls h hw hg hl hK111
    rw [fR_sort_L72] at h
    refine lv_iload hx hb dX4_sort_72 (lv_at hl 4 rfl) ?_
    refine lv_iload_n hx hb dX4_sort_74 rfl (lv_at hl 2 rfl) ?_
    refine lv_icmp_ge (tgt := 111) hx hb dX4_sort_75 (by decide) (fun c_75 => ?_) (fun c_75 => ?_)
    · have h := zz_pos c_75 h
      exact hK111 _ _ _ _ _ _ _ _ h hw hg (lv_sub hl [0, 1, 2, 3] rfl)
    · have h := zz_neg c_75 h
      refine lv_aload_n hx hb dX4_sort_78 rfl (lv_at hl 0 rfl) ?_
      refine cG_407 C in_4 hw.1 k_27 dX4_sort_79 ?_
      refine lv_aload_n hx hb dX4_sort_82 rfl (lv_at hl 0 rfl) ?_
      refine cG_406 C in_4 hw.1 k_24 dX4_sort_83 ?_
      refine lv_aload_n hx hb dX4_sort_86 rfl (lv_at hl 0 rfl) ?_
      refine cG_402 C in_4 hw.1 k_9 dX4_sort_87 ?_
      refine lv_iload hx hb dX4_sort_90 (lv_at hl 4 rfl) ?_
      obtain ⟨b_92, h⟩ := chk_of h
      refine cL_402 C hw.1 b_92 dX4_sort_92 ?_
      refine lv_iload_n hx hb dX4_sort_93 rfl (lv_at hl 3 rfl) ?_
      obtain ⟨r_94, e_94, h⟩ := bnd_of h
      refine callP (W.runS (As := [.int (σ.2.2.1 402 x5.toNatClampNeg), .int x3]) C (cQ_rowIn e_94) (va_cwS 2 hts gX4_sort_X3_rowIn rfl rfl rfl (by decide +kernel) ⟨by decide, by decide⟩) preT rfl rfl hl.1 rfl (lv_room (Nat.le_of_ble_eq_true rfl)) dX4_sort_94 ⟨Nat.zero_le _, Nat.zero_le _⟩) ?_
      obtain ⟨b_97, h⟩ := chk_of h
      refine cL_406 C hw.1 b_97 dX4_sort_97 ?_
      refine lv_iconst (v := (1 : Int32)) hx hb dX4_sort_98 (by decide) ?_
      refine lv_iadd hx hb dX4_sort_99 ?_
      refine lv_dup2_11 hx hb dX4_sort_100 rfl rfl ?_
      obtain ⟨b_101, h⟩ := chk_of h
      refine cL_407 C hw.1 b_101 dX4_sort_101 ?_
      refine lv_iconst (v := (1 : Int32)) hx hb dX4_sort_102 (by decide) ?_
      refine lv_iadd hx hb dX4_sort_103 ?_
      obtain ⟨b_104, h⟩ := chk_of h
      refine cS_407 C hw b_104 dX4_sort_104 (fun H locs hw => ?_)
      refine lv_iinc (v := (x5 + 1)) (lv' := [(5, .int (x5 + 1)), (0, .ref (ρ 499)), (1, .int x1), (2, .int x2), (3, .int x3)]) hx hb dX4_sort_105 hl (k := 4) rfl rfl (by decide) rfl (fun ls hl => ?_)
      refine lv_goto (tgt := 72) hx hb dX4_sort_108 (by decide) ?_
      exact ih _ _ _ _ _ _ _ _ _ h hw hg (lv_sub hl [1, 2, 3, 4, 0] rfl) hK111
set_option maxRecDepth 100000 in
set_option maxHeartbeats 4000000 in
theorem wR_sort_L114 {p : Program} {l : Launch} {e : Env} {s : State} {m : MethodId} {args : Array Value} {below : List Frame} {meth : Method} {c : Code} {D : va_G} {κ : Nat → ClassId} {ρ : Nat → Nat} {g0 : Gh} (C : CallFix p m c cX4_sort 7 s args wsX4_sort RX4) (hr : meth.sig.returnType = none) (hlk : meth.locks = false) {N : Nat} {q : CSt} {K146 : CSt → Int32 → Int32 → Int32 → Option (CSt)} : ∀ (n : Nat) (σ : CSt) (x1 : Int32) (x2 : Int32) (x3 : Int32) (x5 : Int32) (g : Gh) (H : Heap) (locs : List Loc) (ls : Array Slot), fR_sort_L114 N K146 n σ x1 x2 x3 x5 = some q → WC D κ ρ (AC ρ g0 s.heap.size) s.heap g σ s H locs → sub g0 g → lv_has ls 7 [(0, .ref (ρ 499)), (1, .int x1), (2, .int x2), (3, .int x3), (5, .int x5)] → (∀ (σ : CSt) (x1 : Int32) (x2 : Int32) (x3 : Int32) (g : Gh) (H : Heap) (locs : List Loc) (ls : Array Slot), K146 σ x1 x2 x3 = some q → WC D κ ρ (AC ρ g0 s.heap.size) s.heap g σ s H locs → sub g0 g → lv_has ls 7 [(0, .ref (ρ 499)), (1, .int x1), (2, .int x2), (3, .int x3)] → W p l e ({ frames := 3, cells := 0, slots := 0, locals := 67 } : Room) s m args below meth c H locs 0 0 (MQ below (QC D κ ρ s.heap.size g0 q none) args s 0 0 (AC ρ g0 s.heap.size)) (F0 m 146 ls [])) → W p l e ({ frames := 3, cells := 0, slots := 0, locals := 67 } : Room) s m args below meth c H locs 0 0 (MQ below (QC D κ ρ s.heap.size g0 q none) args s 0 0 (AC ρ g0 s.heap.size)) (F0 m 114 ls []) := by
  have hx := C.1
  have hb := C.2.1
  have hts := C.2.2.2.2
  have hown := C.2.2.2.1
  have k_27 := hts (.fieldLink RX4 27 "PlanCabinet$Runner" "places" "[I") (by decide +kernel)
  have in_4 : ∀ w ∈ wsX40, w ∈ wsX4_sort := by decide +kernel
  intro n
  induction n with
  | zero =>
    intro σ x1 x2 x3 x5 g H locs ls h hw hg hl hK146
    rw [fR_sort_L114] at h
    cases h
  | succ n ih =>
    intro σ x1 x2 x3 x5 g H locs ls h hw hg hl hK146
    rw [fR_sort_L114] at h
    refine lv_iload hx hb dX4_sort_114 (lv_at hl 4 rfl) ?_
    refine lv_bipush (v := (8 : Int32)) hx hb dX4_sort_116 (by decide) ?_
    refine lv_icmp_gt (tgt := 146) hx hb dX4_sort_118 (by decide) (fun c_118 => ?_) (fun c_118 => ?_)
    · have h := zz_pos c_118 h
      exact hK146 _ _ _ _ _ _ _ _ h hw hg (lv_sub hl [0, 1, 2, 3] rfl)
    · have h := zz_neg c_118 h
      refine lv_aload_n hx hb dX4_sort_121 rfl (lv_at hl 0 rfl) ?_
      refine cG_407 C in_4 hw.1 k_27 dX4_sort_122 ?_
      refine lv_iload hx hb dX4_sort_125 (lv_at hl 4 rfl) ?_
      refine lv_dup2_11 hx hb dX4_sort_127 rfl rfl ?_
      obtain ⟨b_128, h⟩ := chk_of h
      refine cL_407 C hw.1 b_128 dX4_sort_128 ?_
      refine lv_aload_n hx hb dX4_sort_129 rfl (lv_at hl 0 rfl) ?_
      refine cG_407 C in_4 hw.1 k_27 dX4_sort_130 ?_
      refine lv_iload hx hb dX4_sort_133 (lv_at hl 4 rfl) ?_
      refine lv_iconst (v := (1 : Int32)) hx hb dX4_sort_135 (by decide) ?_
      refine lv_isub hx hb dX4_sort_136 ?_
      obtain ⟨b_137, h⟩ := chk_of h
      refine cL_407 C hw.1 b_137 dX4_sort_137 ?_
      refine lv_iadd hx hb dX4_sort_138 ?_
      obtain ⟨b_139, h⟩ := chk_of h
      refine cS_407 C hw b_139 dX4_sort_139 (fun H locs hw => ?_)
      refine lv_iinc (v := (x5 + 1)) (lv' := [(5, .int (x5 + 1)), (0, .ref (ρ 499)), (1, .int x1), (2, .int x2), (3, .int x3)]) hx hb dX4_sort_140 hl (k := 4) rfl rfl (by decide) rfl (fun ls hl => ?_)
      refine lv_goto (tgt := 114) hx hb dX4_sort_143 (by decide) ?_
      exact ih _ _ _ _ _ _ _ _ _ h hw hg (lv_sub hl [1, 2, 3, 4, 0] rfl) hK146
set_option maxRecDepth 100000 in
set_option maxHeartbeats 4000000 in
theorem wR_sort_L149 {p : Program} {l : Launch} {e : Env} {s : State} {m : MethodId} {args : Array Value} {below : List Frame} {meth : Method} {c : Code} {D : va_G} {κ : Nat → ClassId} {ρ : Nat → Nat} {g0 : Gh} (C : CallFix p m c cX4_sort 7 s args wsX4_sort RX4) (hr : meth.sig.returnType = none) (hlk : meth.locks = false) {N : Nat} {q : CSt} {K209 : CSt → Int32 → Int32 → Option (CSt)} : ∀ (n : Nat) (σ : CSt) (x1 : Int32) (x2 : Int32) (x3 : Int32) (x5 : Int32) (g : Gh) (H : Heap) (locs : List Loc) (ls : Array Slot), fR_sort_L149 N K209 n σ x1 x2 x3 x5 = some q → WC D κ ρ (AC ρ g0 s.heap.size) s.heap g σ s H locs → sub g0 g → lv_has ls 7 [(0, .ref (ρ 499)), (1, .int x1), (2, .int x2), (3, .int x3), (5, .int x5)] → (∀ (σ : CSt) (x1 : Int32) (x2 : Int32) (g : Gh) (H : Heap) (locs : List Loc) (ls : Array Slot), K209 σ x1 x2 = some q → WC D κ ρ (AC ρ g0 s.heap.size) s.heap g σ s H locs → sub g0 g → lv_has ls 7 [(0, .ref (ρ 499)), (1, .int x1), (2, .int x2)] → W p l e ({ frames := 3, cells := 0, slots := 0, locals := 67 } : Room) s m args below meth c H locs 0 0 (MQ below (QC D κ ρ s.heap.size g0 q none) args s 0 0 (AC ρ g0 s.heap.size)) (F0 m 209 ls [])) → W p l e ({ frames := 3, cells := 0, slots := 0, locals := 67 } : Room) s m args below meth c H locs 0 0 (MQ below (QC D κ ρ s.heap.size g0 q none) args s 0 0 (AC ρ g0 s.heap.size)) (F0 m 149 ls []) := by
  have hx := C.1
  have hb := C.2.1
  have hts := C.2.2.2.2
  have hown := C.2.2.2.1
  have k_9 := hts (.fieldLink RX4 9 "PlanCabinet$Runner" "stack" "[I") (by decide +kernel)
  have k_15 := hts (.fieldLink RX4 15 "PlanCabinet$Runner" "joined" "[I") (by decide +kernel)
  have k_24 := hts (.fieldLink RX4 24 "PlanCabinet$Runner" "ranks" "[I") (by decide +kernel)
  have k_27 := hts (.fieldLink RX4 27 "PlanCabinet$Runner" "places" "[I") (by decide +kernel)
  have in_4 : ∀ w ∈ wsX40, w ∈ wsX4_sort := by decide +kernel
  intro n
  induction n with
  | zero =>
    intro σ x1 x2 x3 x5 g H locs ls h hw hg hl hK209
    rw [fR_sort_L149] at h
    cases h
  | succ n ih =>
    intro σ x1 x2 x3 x5 g H locs ls h hw hg hl hK209
    rw [fR_sort_L149] at h
    refine lv_iload hx hb dX4_sort_149 (lv_at hl 4 rfl) ?_
    refine lv_iload_n hx hb dX4_sort_151 rfl (lv_at hl 2 rfl) ?_
    refine lv_icmp_ge (tgt := 209) hx hb dX4_sort_152 (by decide) (fun c_152 => ?_) (fun c_152 => ?_)
    · have h := zz_pos c_152 h
      exact hK209 _ _ _ _ _ _ _ h hw hg (lv_sub hl [0, 1, 2] rfl)
    · have h := zz_neg c_152 h
      refine lv_aload_n hx hb dX4_sort_155 rfl (lv_at hl 0 rfl) ?_
      refine cG_406 C in_4 hw.1 k_24 dX4_sort_156 ?_
      refine lv_aload_n hx hb dX4_sort_159 rfl (lv_at hl 0 rfl) ?_
      refine cG_402 C in_4 hw.1 k_9 dX4_sort_160 ?_
      refine lv_iload hx hb dX4_sort_163 (lv_at hl 4 rfl) ?_
      obtain ⟨b_165, h⟩ := chk_of h
      refine cL_402 C hw.1 b_165 dX4_sort_165 ?_
      refine lv_iload_n hx hb dX4_sort_166 rfl (lv_at hl 3 rfl) ?_
      obtain ⟨r_167, e_167, h⟩ := bnd_of h
      refine callP (W.runS (As := [.int (σ.2.2.1 402 x5.toNatClampNeg), .int x3]) C (cQ_rowIn e_167) (va_cwS 2 hts gX4_sort_X3_rowIn rfl rfl rfl (by decide +kernel) ⟨by decide, by decide⟩) preT rfl rfl hl.1 rfl (lv_room (Nat.le_of_ble_eq_true rfl)) dX4_sort_167 ⟨Nat.zero_le _, Nat.zero_le _⟩) ?_
      obtain ⟨b_170, h⟩ := chk_of h
      refine cL_406 C hw.1 b_170 dX4_sort_170 ?_
      refine lv_istore (lv' := [(6, .int (σ.2.2.1 406 r_167.toNatClampNeg)), (0, .ref (ρ 499)), (1, .int x1), (2, .int x2), (3, .int x3), (5, .int x5)]) hx hb dX4_sort_171 hl (by decide) rfl (fun ls hl => ?_)
      refine lv_aload_n hx hb dX4_sort_173 rfl (lv_at hl 1 rfl) ?_
      refine cG_403 C in_4 hw.1 k_15 dX4_sort_174 ?_
      refine lv_aload_n hx hb dX4_sort_177 rfl (lv_at hl 1 rfl) ?_
      refine cG_407 C in_4 hw.1 k_27 dX4_sort_178 ?_
      refine lv_iload hx hb dX4_sort_181 (lv_at hl 0 rfl) ?_
      obtain ⟨b_183, h⟩ := chk_of h
      refine cL_407 C hw.1 b_183 dX4_sort_183 ?_
      refine lv_aload_n hx hb dX4_sort_184 rfl (lv_at hl 1 rfl) ?_
      refine cG_402 C in_4 hw.1 k_9 dX4_sort_185 ?_
      refine lv_iload hx hb dX4_sort_188 (lv_at hl 5 rfl) ?_
      obtain ⟨b_190, h⟩ := chk_of h
      refine cL_402 C hw.1 b_190 dX4_sort_190 ?_
      obtain ⟨b_191, h⟩ := chk_of h
      refine cS_403 C hw b_191 dX4_sort_191 (fun H locs hw => ?_)
      refine lv_aload_n hx hb dX4_sort_192 rfl (lv_at hl 1 rfl) ?_
      refine cG_407 C in_4 hw.1 k_27 dX4_sort_193 ?_
      refine lv_iload hx hb dX4_sort_196 (lv_at hl 0 rfl) ?_
      refine lv_dup2_11 hx hb dX4_sort_198 rfl rfl ?_
      obtain ⟨b_199, h⟩ := chk_of h
      refine cL_407 C hw.1 b_199 dX4_sort_199 ?_
      refine lv_iconst (v := (1 : Int32)) hx hb dX4_sort_200 (by decide) ?_
      refine lv_iadd hx hb dX4_sort_201 ?_
      obtain ⟨b_202, h⟩ := chk_of h
      refine cS_407 C hw b_202 dX4_sort_202 (fun H locs hw => ?_)
      refine lv_iinc (v := (x5 + 1)) (lv' := [(5, .int (x5 + 1)), (6, .int (σ.2.2.1 406 r_167.toNatClampNeg)), (0, .ref (ρ 499)), (1, .int x1), (2, .int x2), (3, .int x3)]) hx hb dX4_sort_203 hl (k := 5) rfl rfl (by decide) rfl (fun ls hl => ?_)
      refine lv_goto (tgt := 149) hx hb dX4_sort_206 (by decide) ?_
      exact ih _ _ _ _ _ _ _ _ _ h hw hg (lv_sub hl [2, 3, 4, 5, 0] rfl) hK209
set_option maxRecDepth 100000 in
set_option maxHeartbeats 4000000 in
theorem cR_sort {l : Launch} {D : va_G} {κ : Nat → ClassId} {ρ : Nat → Nat} {g0 : Gh} {sz : Nat} {N : Nat} {σ : CSt} {x1 : Int32} {x2 : Int32} {x3 : Int32} {x4 : Int32} {q : CSt} (h : fR_sort N σ x1 x2 x3 x4 = some q) : Met l yX4_sort wsX4_sort ({ frames := 3, cells := 0, slots := 0, locals := 67 } : Room) (va_Pc [.ref (ρ 499), .int x1, .int x2, .int x3, .int x4] (PC D κ ρ sz g0 σ)) (QC D κ ρ sz g0 q none) 0 0 (AC ρ g0 sz) := by
  refine cMetM (Qc := fun z => QC D κ ρ z g0 q none) (ret := none) (by decide) rfl rfl (Nat.le_of_ble_eq_true rfl) ?_
  intro p e s m below meth c ls C hr hlk hw hl
  obtain ⟨g, eg⟩ : ∃ x, x = g0 := ⟨_, rfl⟩
  have hw : WC D κ ρ (AC ρ g0 s.heap.size) s.heap g σ s s.heap [] := by rw [eg]; exact hw
  have hg : sub g0 g := by rw [eg]; exact sub_rf g0
  have hl : lv_has ls 7 [(0, .ref (ρ 499)), (1, .int x1), (2, .int x2), (3, .int x3), (4, .int x4)] := hl
  unfold fR_sort at h
  have hx := C.1
  have hb := C.2.1
  have hts := C.2.2.2.2
  have hown := C.2.2.2.1
  have k_9 := hts (.fieldLink RX4 9 "PlanCabinet$Runner" "stack" "[I") (by decide +kernel)
  have k_15 := hts (.fieldLink RX4 15 "PlanCabinet$Runner" "joined" "[I") (by decide +kernel)
  have k_33 := hts (.fieldLink RX4 33 "PlanCabinet$Runner" "question" "LPlanCabinet$Question;") (by decide +kernel)
  have k_131 := hts (.methodLink RX4 131 arraycopyName) (by decide +kernel)
  have in_4 : ∀ w ∈ wsX40, w ∈ wsX4_sort := by decide +kernel
  refine lv_aload_n hx hb dX4_sort_0 rfl (lv_at hl 0 rfl) ?_
  refine cG_401 C in_4 hw.1 k_33 dX4_sort_1 ?_
  refine lv_iload_n hx hb dX4_sort_4 rfl (lv_at hl 3 rfl) ?_
  refine lv_iload hx hb dX4_sort_5 (lv_at hl 4 rfl) ?_
  obtain ⟨r_7, e_7, h⟩ := bnd_of h
  refine callP (W.runV (As := [.int x3, .int x4]) C (cQ_isField e_7) (cwV 2 hts gX4_sort_X3_isField rfl rfl rfl (by decide +kernel) ⟨by decide, by decide⟩) (preR (recv_399 hw.1) hw.1) rfl rfl hl.1 rfl (lv_room (Nat.le_of_ble_eq_true rfl)) dX4_sort_7 ⟨Nat.zero_le _, Nat.zero_le _⟩) ?_
  refine lv_if_eq (tgt := 37) hx hb dX4_sort_10 (by decide) (fun c_10 => ?_) (fun c_10 => ?_)
  · have h := zz_pos c_10 h
    exact W.vret hx hb hr (fun t ht hW => QC.of rfl (by rw [← some_of h]; exact hw) hg ht hW) hw.2.2.2.2 dX4_sort_37
  · have h := zz_neg c_10 h
    refine lv_iload_n hx hb dX4_sort_13 rfl (lv_at hl 1 rfl) ?_
    refine lv_if_lt (tgt := 37) hx hb dX4_sort_14 (by decide) (fun c_14 => ?_) (fun c_14 => ?_)
    · have h := zz_pos c_14 h
      exact W.vret hx hb hr (fun t ht hW => QC.of rfl (by rw [← some_of h]; exact hw) hg ht hW) hw.2.2.2.2 dX4_sort_37
    · have h := zz_neg c_14 h
      refine lv_iload_n hx hb dX4_sort_17 rfl (lv_at hl 2 rfl) ?_
      refine lv_aload_n hx hb dX4_sort_18 rfl (lv_at hl 0 rfl) ?_
      refine cG_402 C in_4 hw.1 k_9 dX4_sort_19 ?_
      refine cLen_402 C hw.1 dX4_sort_22 ?_
      refine lv_icmp_gt (tgt := 37) hx hb dX4_sort_23 (by decide) (fun c_23 => ?_) (fun c_23 => ?_)
      · have h := zz_pos c_23 h
        exact W.vret hx hb hr (fun t ht hW => QC.of rfl (by rw [← some_of h]; exact hw) hg ht hW) hw.2.2.2.2 dX4_sort_37
      · have h := zz_neg c_23 h
        refine lv_iload_n hx hb dX4_sort_26 rfl (lv_at hl 2 rfl) ?_
        refine lv_iload_n hx hb dX4_sort_27 rfl (lv_at hl 1 rfl) ?_
        refine lv_isub hx hb dX4_sort_28 ?_
        refine lv_aload_n hx hb dX4_sort_29 rfl (lv_at hl 0 rfl) ?_
        refine cG_403 C in_4 hw.1 k_15 dX4_sort_30 ?_
        refine cLen_403 C hw.1 dX4_sort_33 ?_
        refine lv_icmp_le (tgt := 38) hx hb dX4_sort_34 (by decide) (fun c_34 => ?_) (fun c_34 => ?_)
        · have h := zz_pos c_34 h
          refine lv_aload_n hx hb dX4_sort_38 rfl (lv_at hl 0 rfl) ?_
          refine lv_iload_n hx hb dX4_sort_39 rfl (lv_at hl 3 rfl) ?_
          refine lv_iload hx hb dX4_sort_40 (lv_at hl 4 rfl) ?_
          obtain ⟨r_42, e_42, h⟩ := bnd_of h
          refine callC (va_runV (As := [.int x3, .int x4]) C (cR_findRanks e_42) (cwV 2 hts gX4_sort_X4_findRanks rfl rfl rfl (by decide +kernel) ⟨by decide, by decide⟩) (preM (recv_499 hw.1) hw) rfl rfl hl.1 rfl (lv_room (Nat.le_of_ble_eq_true rfl)) dX4_sort_42 ⟨Nat.zero_le _, Nat.zero_le _⟩) hw (fun _ h => Or.inr h) (fun g H locs hs hw => ?_)
          have hg := sub_tr hg hs
          refine lv_iconst (v := (0 : Int32)) hx hb dX4_sort_45 (by decide) ?_
          refine lv_istore (lv' := [(5, .int (0 : Int32)), (0, .ref (ρ 499)), (1, .int x1), (2, .int x2), (3, .int x3), (4, .int x4)]) hx hb dX4_sort_46 hl (by decide) rfl (fun ls hl => ?_)
          refine wR_sort_L48 C hr hlk  _ _ _ _ _ _ _ _ _ _ h hw hg (lv_sub hl [1, 2, 3, 4, 0] rfl) ?_
          intro σ x1 x2 x3 g H locs ls h hw hg hl
          refine lv_iload_n hx hb dX4_sort_69 rfl (lv_at hl 1 rfl) ?_
          refine lv_istore (lv' := [(5, .int x1), (0, .ref (ρ 499)), (1, .int x1), (2, .int x2), (3, .int x3)]) hx hb dX4_sort_70 hl (by decide) rfl (fun ls hl => ?_)
          refine wR_sort_L72 C hr hlk  _ _ _ _ _ _ _ _ _ _ h hw hg (lv_sub hl [1, 2, 3, 4, 0] rfl) ?_
          intro σ x1 x2 x3 g H locs ls h hw hg hl
          refine lv_iconst (v := (1 : Int32)) hx hb dX4_sort_111 (by decide) ?_
          refine lv_istore (lv' := [(5, .int (1 : Int32)), (0, .ref (ρ 499)), (1, .int x1), (2, .int x2), (3, .int x3)]) hx hb dX4_sort_112 hl (by decide) rfl (fun ls hl => ?_)
          refine wR_sort_L114 C hr hlk  _ _ _ _ _ _ _ _ _ _ h hw hg (lv_sub hl [1, 2, 3, 4, 0] rfl) ?_
          intro σ x1 x2 x3 g H locs ls h hw hg hl
          refine lv_iload_n hx hb dX4_sort_146 rfl (lv_at hl 1 rfl) ?_
          refine lv_istore (lv' := [(5, .int x1), (0, .ref (ρ 499)), (1, .int x1), (2, .int x2), (3, .int x3)]) hx hb dX4_sort_147 hl (by decide) rfl (fun ls hl => ?_)
          refine wR_sort_L149 C hr hlk  _ _ _ _ _ _ _ _ _ _ h hw hg (lv_sub hl [1, 2, 3, 4, 0] rfl) ?_
          intro σ x1 x2 g H locs ls h hw hg hl
          refine lv_aload_n hx hb dX4_sort_209 rfl (lv_at hl 0 rfl) ?_
          refine cG_403 C in_4 hw.1 k_15 dX4_sort_210 ?_
          refine lv_iconst (v := (0 : Int32)) hx hb dX4_sort_213 (by decide) ?_
          refine lv_aload_n hx hb dX4_sort_214 rfl (lv_at hl 0 rfl) ?_
          refine cG_402 C in_4 hw.1 k_9 dX4_sort_215 ?_
          refine lv_iload_n hx hb dX4_sort_218 rfl (lv_at hl 1 rfl) ?_
          refine lv_iconst (v := (0 : Int32)) hx hb dX4_sort_219 (by decide) ?_
          refine lv_iload_n hx hb dX4_sort_220 rfl (lv_at hl 2 rfl) ?_
          refine lv_iload_n hx hb dX4_sort_221 rfl (lv_at hl 1 rfl) ?_
          refine lv_isub hx hb dX4_sort_222 ?_
          refine va_mmax hx hb (C.2.2.1.trans hl.1.symm) hown (hts (.methodLink RX4 103 yJ9_max_7cf53) (by decide +kernel)) (hts (.static yJ9_max_7cf53) (by decide +kernel)) (hts (.initialized RJ9) (by decide +kernel)) (hts (.code yJ9_max_7cf53 cJ9_max_7cf53 2 (some .int)) (by decide +kernel)) (Nat.le_of_ble_eq_true rfl) (Nat.le_of_ble_eq_true rfl) (Nat.zero_le _) (Nat.zero_le _) dX4_sort_223 ?_
          obtain ⟨b_226, h⟩ := cpk_of h
          refine cCopy C hl.1 hw k_131 (hts (.native arraycopyName) (by decide +kernel)) (hts (.static arraycopyName) (by decide +kernel)) (hts (.initialized "java/lang/System") (by decide +kernel)) b_226 (by decide) (Nat.le_of_ble_eq_true rfl) dX4_sort_226 (fun H locs hw => ?_)
          exact W.vret hx hb hr (fun t ht hW => QC.of rfl (by rw [← some_of h]; exact hw) hg ht hW) hw.2.2.2.2 dX4_sort_229
        · have h := zz_neg c_34 h
          exact W.vret hx hb hr (fun t ht hW => QC.of rfl (by rw [← some_of h]; exact hw) hg ht hW) hw.2.2.2.2 dX4_sort_37
def fR_isHeldBetween_L2 (N : Nat) (σ : CSt) : Nat → Int32 → Int32 → Option (Int32)
  | 0, _, _ => none
  | n + 1, x1, x2 => (if (σ.1 409) ≤ x2 then some (1 : Int32) else (if (4 : Int32) ≤ x2 then some (1 : Int32) else chk x2 4 ((fQ_isHeld N σ (σ.2.2.1 408 x2.toNatClampNeg) x1).bind fun r_26 => (if r_26 = 0 then some (0 : Int32) else fR_isHeldBetween_L2 N σ n x1 (x2 + 1)))))
def fR_isHeldBetween (N : Nat) (σ : CSt) (x1 : Int32) : Option (Int32) := fR_isHeldBetween_L2 N σ N x1 (0 : Int32)
set_option maxRecDepth 100000 in
set_option maxHeartbeats 4000000 in
theorem wR_isHeldBetween_L2 {p : Program} {l : Launch} {e : Env} {s : State} {m : MethodId} {args : Array Value} {below : List Frame} {meth : Method} {c : Code} {D : va_G} {κ : Nat → ClassId} {ρ : Nat → Nat} {g : Gh} {σ : CSt} (C : CallFix p m c cX4_isHeldBetween 3 s args wsX4_isHeldBetween RX4) (hr : meth.sig.returnType = (some .boolean)) (hlk : meth.locks = false) (hw : RC D κ ρ g σ s s.heap) {N : Nat} {r : Int32} : ∀ (n : Nat) (x1 : Int32) (x2 : Int32) (ls : Array Slot), fR_isHeldBetween_L2 N σ n x1 x2 = some r → lv_has ls 3 [(0, .ref (ρ 499)), (1, .int x1), (2, .int x2)] → W p l e ({ frames := 2, cells := 0, slots := 0, locals := 47 } : Room) s m args below meth c s.heap [] 0 0 (MQ below (PU (some (.int r))) args s 0 0 (fun _ => False)) (F0 m 2 ls []) := by
  have hx := C.1
  have hb := C.2.1
  have hts := C.2.2.2.2
  have hown := C.2.2.2.1
  have k_30 := hts (.fieldLink RX4 30 "PlanCabinet$Runner" "between" "[I") (by decide +kernel)
  have k_33 := hts (.fieldLink RX4 33 "PlanCabinet$Runner" "question" "LPlanCabinet$Question;") (by decide +kernel)
  have k_141 := hts (.fieldLink RX4 141 "PlanCabinet$Runner" "betweenCount" "I") (by decide +kernel)
  have in_4 : ∀ w ∈ wsX40, w ∈ wsX4_isHeldBetween := by decide +kernel
  intro n
  induction n with
  | zero =>
    intro x1 x2 ls h hl
    rw [fR_isHeldBetween_L2] at h
    cases h
  | succ n ih =>
    intro x1 x2 ls h hl
    rw [fR_isHeldBetween_L2] at h
    refine lv_iload_n hx hb dX4_isHeldBetween_2 rfl (lv_at hl 2 rfl) ?_
    refine lv_aload_n hx hb dX4_isHeldBetween_3 rfl (lv_at hl 0 rfl) ?_
    refine cG_409 C in_4 hw k_141 dX4_isHeldBetween_4 ?_
    refine lv_icmp_ge (tgt := 40) hx hb dX4_isHeldBetween_7 (by decide) (fun c_7 => ?_) (fun c_7 => ?_)
    · have h := zz_pos c_7 h
      refine lv_iconst (v := (1 : Int32)) hx hb dX4_isHeldBetween_40 (by decide) ?_
      exact W.zret (ty := .boolean) hx hb hr (by decide +kernel) (fun t ht hW => ⟨by rw [some_of h], ht⟩) (fun _ h => by cases h) dX4_isHeldBetween_41
    · have h := zz_neg c_7 h
      refine lv_iload_n hx hb dX4_isHeldBetween_10 rfl (lv_at hl 2 rfl) ?_
      refine lv_iconst (v := (4 : Int32)) hx hb dX4_isHeldBetween_11 (by decide) ?_
      refine lv_icmp_ge (tgt := 40) hx hb dX4_isHeldBetween_12 (by decide) (fun c_12 => ?_) (fun c_12 => ?_)
      · have h := zz_pos c_12 h
        refine lv_iconst (v := (1 : Int32)) hx hb dX4_isHeldBetween_40 (by decide) ?_
        exact W.zret (ty := .boolean) hx hb hr (by decide +kernel) (fun t ht hW => ⟨by rw [some_of h], ht⟩) (fun _ h => by cases h) dX4_isHeldBetween_41
      · have h := zz_neg c_12 h
        refine lv_aload_n hx hb dX4_isHeldBetween_15 rfl (lv_at hl 0 rfl) ?_
        refine cG_401 C in_4 hw k_33 dX4_isHeldBetween_16 ?_
        refine lv_aload_n hx hb dX4_isHeldBetween_19 rfl (lv_at hl 0 rfl) ?_
        refine cG_408 C in_4 hw k_30 dX4_isHeldBetween_20 ?_
        refine lv_iload_n hx hb dX4_isHeldBetween_23 rfl (lv_at hl 2 rfl) ?_
        obtain ⟨b_24, h⟩ := chk_of h
        refine cL_408 C hw b_24 dX4_isHeldBetween_24 ?_
        refine lv_iload_n hx hb dX4_isHeldBetween_25 rfl (lv_at hl 1 rfl) ?_
        obtain ⟨r_26, e_26, h⟩ := bnd_of h
        refine callP (W.runV (As := [.int (σ.2.2.1 408 x2.toNatClampNeg), .int x1]) C (cQ_isHeld e_26) (cwV 2 hts gX4_isHeldBetween_X3_isHeld rfl rfl rfl (by decide +kernel) ⟨by decide, by decide⟩) (preR (recv_399 hw) hw) rfl rfl hl.1 rfl (lv_room (Nat.le_of_ble_eq_true rfl)) dX4_isHeldBetween_26 ⟨Nat.zero_le _, Nat.zero_le _⟩) ?_
        refine lv_if_ne (tgt := 34) hx hb dX4_isHeldBetween_29 (by decide) (fun c_29 => ?_) (fun c_29 => ?_)
        · have h := zz_neg c_29 h
          refine lv_iinc (v := (x2 + 1)) (lv' := [(2, .int (x2 + 1)), (0, .ref (ρ 499)), (1, .int x1)]) hx hb dX4_isHeldBetween_34 hl (k := 2) rfl rfl (by decide) rfl (fun ls hl => ?_)
          refine lv_goto (tgt := 2) hx hb dX4_isHeldBetween_37 (by decide) ?_
          exact ih _ _ _ h (lv_sub hl [1, 2, 0] rfl)
        · have h := zz_pos c_29 h
          refine lv_iconst (v := (0 : Int32)) hx hb dX4_isHeldBetween_32 (by decide) ?_
          exact W.zret (ty := .boolean) hx hb hr (by decide +kernel) (fun t ht hW => ⟨by rw [some_of h], ht⟩) (fun _ h => by cases h) dX4_isHeldBetween_33
set_option maxRecDepth 100000 in
set_option maxHeartbeats 4000000 in
theorem cR_isHeldBetween {l : Launch} {D : va_G} {κ : Nat → ClassId} {ρ : Nat → Nat} {g : Gh} {N : Nat} {σ : CSt} {x1 : Int32} {r : Int32} (h : fR_isHeldBetween N σ x1 = some r) : Met l yX4_isHeldBetween wsX4_isHeldBetween ({ frames := 2, cells := 0, slots := 0, locals := 47 } : Room) (va_Pc [.ref (ρ 499), .int x1] (PRC D κ ρ g σ)) (PU (some (.int r))) 0 0 (fun _ => False) := by
  refine cMetR (ret := (some .boolean)) (by decide) rfl rfl (Nat.le_of_ble_eq_true rfl) ?_
  intro p e s m below meth c ls C hr hlk hw hl
  have hl : lv_has ls 3 [(0, .ref (ρ 499)), (1, .int x1)] := hl
  unfold fR_isHeldBetween at h
  have hx := C.1
  have hb := C.2.1
  have hts := C.2.2.2.2
  have hown := C.2.2.2.1
  refine lv_iconst (v := (0 : Int32)) hx hb dX4_isHeldBetween_0 (by decide) ?_
  refine lv_istore_n (lv' := [(2, .int (0 : Int32)), (0, .ref (ρ 499)), (1, .int x1)]) hx hb dX4_isHeldBetween_1 rfl hl (by decide) rfl (fun ls hl => ?_)
  exact wR_isHeldBetween_L2 C hr hlk hw _ _ _ _ h (lv_sub hl [1, 2, 0] rfl)
def fR_combine_L39 (N : Nat) (K104 : CSt → Int32 → Int32 → Option (Int32 × CSt)) : Nat → CSt → Int32 → Int32 → Int32 → Option (Int32 × CSt)
  | 0, _, _, _, _ => none
  | n + 1, σ, x1, x2, x3 => chk ((σ.1 410) - (1 : Int32)) 5 ((if (σ.2.2.1 404 ((σ.1 410) - (1 : Int32)).toNatClampNeg) ≤ x3 then K104 σ x1 x2 else chk x2 (σ.2.2.2.2.2 402) (chk x3 (σ.2.2.2.2.2 402) ((if (Int32.ofNat (σ.2.2.2.2.2 403)) ≤ x1 then fR_combine_L39 N K104 n σ x1 x2 (x3 + 1) else (fR_isHeldBetween N σ ((σ.2.2.1 402 x2.toNatClampNeg) ||| (σ.2.2.1 402 x3.toNatClampNeg))).bind fun r_81 => (if r_81 = 0 then fR_combine_L39 N K104 n σ x1 x2 (x3 + 1) else chk x1 (σ.2.2.2.2.2 403) (fR_combine_L39 N K104 n (cA σ 403 x1.toNatClampNeg ((σ.2.2.1 402 x2.toNatClampNeg) ||| (σ.2.2.1 402 x3.toNatClampNeg))) (x1 + 1) x2 (x3 + 1))))))))
def fR_combine_L14 (N : Nat) : Nat → CSt → Int32 → Int32 → Option (Int32 × CSt)
  | 0, _, _, _ => none
  | n + 1, σ, x1, x2 => chk (σ.1 410) 5 ((if (σ.2.2.1 404 (σ.1 410).toNatClampNeg) ≤ x2 then some (x1, σ) else chk ((σ.1 410) - (2 : Int32)) 5 (fR_combine_L39 N (fun (σ : CSt) (x1 : Int32) (x2 : Int32) => fR_combine_L14 N n σ x1 (x2 + 1)) N σ x1 x2 (σ.2.2.1 404 ((σ.1 410) - (2 : Int32)).toNatClampNeg))))
def fR_combine (N : Nat) (σ : CSt) : Option (Int32 × CSt) := chk ((σ.1 410) - (1 : Int32)) 5 (fR_combine_L14 N N σ (0 : Int32) (σ.2.2.1 404 ((σ.1 410) - (1 : Int32)).toNatClampNeg))
set_option maxRecDepth 100000 in
set_option maxHeartbeats 4000000 in
theorem wR_combine_L39 {p : Program} {l : Launch} {e : Env} {s : State} {m : MethodId} {args : Array Value} {below : List Frame} {meth : Method} {c : Code} {D : va_G} {κ : Nat → ClassId} {ρ : Nat → Nat} {g0 : Gh} (C : CallFix p m c cX4_combine 5 s args wsX4_combine RX4) (hr : meth.sig.returnType = (some .int)) (hlk : meth.locks = false) {N : Nat} {q : Int32 × CSt} {K104 : CSt → Int32 → Int32 → Option (Int32 × CSt)} : ∀ (n : Nat) (σ : CSt) (x1 : Int32) (x2 : Int32) (x3 : Int32) (g : Gh) (H : Heap) (locs : List Loc) (ls : Array Slot), fR_combine_L39 N K104 n σ x1 x2 x3 = some q → WC D κ ρ (AC ρ g0 s.heap.size) s.heap g σ s H locs → sub g0 g → lv_has ls 5 [(0, .ref (ρ 499)), (1, .int x1), (2, .int x2), (3, .int x3)] → (∀ (σ : CSt) (x1 : Int32) (x2 : Int32) (g : Gh) (H : Heap) (locs : List Loc) (ls : Array Slot), K104 σ x1 x2 = some q → WC D κ ρ (AC ρ g0 s.heap.size) s.heap g σ s H locs → sub g0 g → lv_has ls 5 [(0, .ref (ρ 499)), (1, .int x1), (2, .int x2)] → W p l e ({ frames := 3, cells := 0, slots := 0, locals := 69 } : Room) s m args below meth c H locs 0 0 (MQ below (QC D κ ρ s.heap.size g0 q.2 (some (.int q.1))) args s 0 0 (AC ρ g0 s.heap.size)) (F0 m 104 ls [])) → W p l e ({ frames := 3, cells := 0, slots := 0, locals := 69 } : Room) s m args below meth c H locs 0 0 (MQ below (QC D κ ρ s.heap.size g0 q.2 (some (.int q.1))) args s 0 0 (AC ρ g0 s.heap.size)) (F0 m 39 ls []) := by
  have hx := C.1
  have hb := C.2.1
  have hts := C.2.2.2.2
  have hown := C.2.2.2.1
  have k_9 := hts (.fieldLink RX4 9 "PlanCabinet$Runner" "stack" "[I") (by decide +kernel)
  have k_15 := hts (.fieldLink RX4 15 "PlanCabinet$Runner" "joined" "[I") (by decide +kernel)
  have k_18 := hts (.fieldLink RX4 18 "PlanCabinet$Runner" "starts" "[I") (by decide +kernel)
  have k_44 := hts (.fieldLink RX4 44 "PlanCabinet$Runner" "depth" "I") (by decide +kernel)
  have in_4 : ∀ w ∈ wsX40, w ∈ wsX4_combine := by decide +kernel
  intro n
  induction n with
  | zero =>
    intro σ x1 x2 x3 g H locs ls h hw hg hl hK104
    rw [fR_combine_L39] at h
    cases h
  | succ n ih =>
    intro σ x1 x2 x3 g H locs ls h hw hg hl hK104
    rw [fR_combine_L39] at h
    refine lv_iload_n hx hb dX4_combine_39 rfl (lv_at hl 3 rfl) ?_
    refine lv_aload_n hx hb dX4_combine_40 rfl (lv_at hl 0 rfl) ?_
    refine cG_404 C in_4 hw.1 k_18 dX4_combine_41 ?_
    refine lv_aload_n hx hb dX4_combine_44 rfl (lv_at hl 0 rfl) ?_
    refine cG_410 C in_4 hw.1 k_44 dX4_combine_45 ?_
    refine lv_iconst (v := (1 : Int32)) hx hb dX4_combine_48 (by decide) ?_
    refine lv_isub hx hb dX4_combine_49 ?_
    obtain ⟨b_50, h⟩ := chk_of h
    refine cL_404 C hw.1 b_50 dX4_combine_50 ?_
    refine lv_icmp_ge (tgt := 104) hx hb dX4_combine_51 (by decide) (fun c_51 => ?_) (fun c_51 => ?_)
    · have h := zz_pos c_51 h
      exact hK104 _ _ _ _ _ _ _ h hw hg (lv_sub hl [0, 1, 2] rfl)
    · have h := zz_neg c_51 h
      refine lv_aload_n hx hb dX4_combine_54 rfl (lv_at hl 0 rfl) ?_
      refine cG_402 C in_4 hw.1 k_9 dX4_combine_55 ?_
      refine lv_iload_n hx hb dX4_combine_58 rfl (lv_at hl 2 rfl) ?_
      obtain ⟨b_59, h⟩ := chk_of h
      refine cL_402 C hw.1 b_59 dX4_combine_59 ?_
      refine lv_aload_n hx hb dX4_combine_60 rfl (lv_at hl 0 rfl) ?_
      refine cG_402 C in_4 hw.1 k_9 dX4_combine_61 ?_
      refine lv_iload_n hx hb dX4_combine_64 rfl (lv_at hl 3 rfl) ?_
      obtain ⟨b_65, h⟩ := chk_of h
      refine cL_402 C hw.1 b_65 dX4_combine_65 ?_
      refine lv_ior hx hb dX4_combine_66 ?_
      refine lv_istore (lv' := [(4, .int ((σ.2.2.1 402 x2.toNatClampNeg) ||| (σ.2.2.1 402 x3.toNatClampNeg))), (0, .ref (ρ 499)), (1, .int x1), (2, .int x2), (3, .int x3)]) hx hb dX4_combine_67 hl (by decide) rfl (fun ls hl => ?_)
      refine lv_iload_n hx hb dX4_combine_69 rfl (lv_at hl 2 rfl) ?_
      refine lv_aload_n hx hb dX4_combine_70 rfl (lv_at hl 1 rfl) ?_
      refine cG_403 C in_4 hw.1 k_15 dX4_combine_71 ?_
      refine cLen_403 C hw.1 dX4_combine_74 ?_
      refine lv_icmp_ge (tgt := 98) hx hb dX4_combine_75 (by decide) (fun c_75 => ?_) (fun c_75 => ?_)
      · have h := zz_pos c_75 h
        refine lv_iinc (v := (x3 + 1)) (lv' := [(3, .int (x3 + 1)), (4, .int ((σ.2.2.1 402 x2.toNatClampNeg) ||| (σ.2.2.1 402 x3.toNatClampNeg))), (0, .ref (ρ 499)), (1, .int x1), (2, .int x2)]) hx hb dX4_combine_98 hl (k := 4) rfl rfl (by decide) rfl (fun ls hl => ?_)
        refine lv_goto (tgt := 39) hx hb dX4_combine_101 (by decide) ?_
        exact ih _ _ _ _ _ _ _ _ h hw hg (lv_sub hl [2, 3, 4, 0] rfl) hK104
      · have h := zz_neg c_75 h
        refine lv_aload_n hx hb dX4_combine_78 rfl (lv_at hl 1 rfl) ?_
        refine lv_iload hx hb dX4_combine_79 (lv_at hl 0 rfl) ?_
        obtain ⟨r_81, e_81, h⟩ := bnd_of h
        refine callP (W.runV (As := [.int ((σ.2.2.1 402 x2.toNatClampNeg) ||| (σ.2.2.1 402 x3.toNatClampNeg))]) C (cR_isHeldBetween e_81) (cwV 1 hts gX4_combine_X4_isHeldBetween rfl rfl rfl (by decide +kernel) ⟨by decide, by decide⟩) (preR (recv_499 hw.1) hw.1) rfl rfl hl.1 rfl (lv_room (Nat.le_of_ble_eq_true rfl)) dX4_combine_81 ⟨Nat.zero_le _, Nat.zero_le _⟩) ?_
        refine lv_if_eq (tgt := 98) hx hb dX4_combine_84 (by decide) (fun c_84 => ?_) (fun c_84 => ?_)
        · have h := zz_pos c_84 h
          refine lv_iinc (v := (x3 + 1)) (lv' := [(3, .int (x3 + 1)), (4, .int ((σ.2.2.1 402 x2.toNatClampNeg) ||| (σ.2.2.1 402 x3.toNatClampNeg))), (0, .ref (ρ 499)), (1, .int x1), (2, .int x2)]) hx hb dX4_combine_98 hl (k := 4) rfl rfl (by decide) rfl (fun ls hl => ?_)
          refine lv_goto (tgt := 39) hx hb dX4_combine_101 (by decide) ?_
          exact ih _ _ _ _ _ _ _ _ h hw hg (lv_sub hl [2, 3, 4, 0] rfl) hK104
        · have h := zz_neg c_84 h
          refine lv_aload_n hx hb dX4_combine_87 rfl (lv_at hl 1 rfl) ?_
          refine cG_403 C in_4 hw.1 k_15 dX4_combine_88 ?_
          refine lv_iload_n hx hb dX4_combine_91 rfl (lv_at hl 2 rfl) ?_
          refine lv_iload hx hb dX4_combine_92 (lv_at hl 0 rfl) ?_
          obtain ⟨b_94, h⟩ := chk_of h
          refine cS_403 C hw b_94 dX4_combine_94 (fun H locs hw => ?_)
          refine lv_iinc (v := (x1 + 1)) (lv' := [(1, .int (x1 + 1)), (4, .int ((σ.2.2.1 402 x2.toNatClampNeg) ||| (σ.2.2.1 402 x3.toNatClampNeg))), (0, .ref (ρ 499)), (2, .int x2), (3, .int x3)]) hx hb dX4_combine_95 hl (k := 2) rfl rfl (by decide) rfl (fun ls hl => ?_)
          refine lv_iinc (v := (x3 + 1)) (lv' := [(3, .int (x3 + 1)), (1, .int (x1 + 1)), (4, .int ((σ.2.2.1 402 x2.toNatClampNeg) ||| (σ.2.2.1 402 x3.toNatClampNeg))), (0, .ref (ρ 499)), (2, .int x2)]) hx hb dX4_combine_98 hl (k := 4) rfl rfl (by decide) rfl (fun ls hl => ?_)
          refine lv_goto (tgt := 39) hx hb dX4_combine_101 (by decide) ?_
          exact ih _ _ _ _ _ _ _ _ h hw hg (lv_sub hl [3, 1, 4, 0] rfl) hK104
set_option maxRecDepth 100000 in
set_option maxHeartbeats 4000000 in
theorem wR_combine_L14 {p : Program} {l : Launch} {e : Env} {s : State} {m : MethodId} {args : Array Value} {below : List Frame} {meth : Method} {c : Code} {D : va_G} {κ : Nat → ClassId} {ρ : Nat → Nat} {g0 : Gh} (C : CallFix p m c cX4_combine 5 s args wsX4_combine RX4) (hr : meth.sig.returnType = (some .int)) (hlk : meth.locks = false) {N : Nat} {q : Int32 × CSt} : ∀ (n : Nat) (σ : CSt) (x1 : Int32) (x2 : Int32) (g : Gh) (H : Heap) (locs : List Loc) (ls : Array Slot), fR_combine_L14 N n σ x1 x2 = some q → WC D κ ρ (AC ρ g0 s.heap.size) s.heap g σ s H locs → sub g0 g → lv_has ls 5 [(0, .ref (ρ 499)), (1, .int x1), (2, .int x2)] → W p l e ({ frames := 3, cells := 0, slots := 0, locals := 69 } : Room) s m args below meth c H locs 0 0 (MQ below (QC D κ ρ s.heap.size g0 q.2 (some (.int q.1))) args s 0 0 (AC ρ g0 s.heap.size)) (F0 m 14 ls []) := by
  have hx := C.1
  have hb := C.2.1
  have hts := C.2.2.2.2
  have hown := C.2.2.2.1
  have k_18 := hts (.fieldLink RX4 18 "PlanCabinet$Runner" "starts" "[I") (by decide +kernel)
  have k_44 := hts (.fieldLink RX4 44 "PlanCabinet$Runner" "depth" "I") (by decide +kernel)
  have in_4 : ∀ w ∈ wsX40, w ∈ wsX4_combine := by decide +kernel
  intro n
  induction n with
  | zero =>
    intro σ x1 x2 g H locs ls h hw hg hl
    rw [fR_combine_L14] at h
    cases h
  | succ n ih =>
    intro σ x1 x2 g H locs ls h hw hg hl
    rw [fR_combine_L14] at h
    refine lv_iload_n hx hb dX4_combine_14 rfl (lv_at hl 2 rfl) ?_
    refine lv_aload_n hx hb dX4_combine_15 rfl (lv_at hl 0 rfl) ?_
    refine cG_404 C in_4 hw.1 k_18 dX4_combine_16 ?_
    refine lv_aload_n hx hb dX4_combine_19 rfl (lv_at hl 0 rfl) ?_
    refine cG_410 C in_4 hw.1 k_44 dX4_combine_20 ?_
    obtain ⟨b_23, h⟩ := chk_of h
    refine cL_404 C hw.1 b_23 dX4_combine_23 ?_
    refine lv_icmp_ge (tgt := 110) hx hb dX4_combine_24 (by decide) (fun c_24 => ?_) (fun c_24 => ?_)
    · have h := zz_pos c_24 h
      refine lv_iload_n hx hb dX4_combine_110 rfl (lv_at hl 1 rfl) ?_
      exact W.iret hx hb hr (fun t ht hW => QC.of (by rw [← some_of h]) (by rw [← some_of h]; exact hw) hg ht hW) hw.2.2.2.2 dX4_combine_111
    · have h := zz_neg c_24 h
      refine lv_aload_n hx hb dX4_combine_27 rfl (lv_at hl 0 rfl) ?_
      refine cG_404 C in_4 hw.1 k_18 dX4_combine_28 ?_
      refine lv_aload_n hx hb dX4_combine_31 rfl (lv_at hl 0 rfl) ?_
      refine cG_410 C in_4 hw.1 k_44 dX4_combine_32 ?_
      refine lv_iconst (v := (2 : Int32)) hx hb dX4_combine_35 (by decide) ?_
      refine lv_isub hx hb dX4_combine_36 ?_
      obtain ⟨b_37, h⟩ := chk_of h
      refine cL_404 C hw.1 b_37 dX4_combine_37 ?_
      refine lv_istore_n (lv' := [(3, .int (σ.2.2.1 404 ((σ.1 410) - (2 : Int32)).toNatClampNeg)), (0, .ref (ρ 499)), (1, .int x1), (2, .int x2)]) hx hb dX4_combine_38 rfl hl (by decide) rfl (fun ls hl => ?_)
      refine wR_combine_L39 C hr hlk  _ _ _ _ _ _ _ _ _ h hw hg (lv_sub hl [1, 2, 3, 0] rfl) ?_
      intro σ x1 x2 g H locs ls h hw hg hl
      refine lv_iinc (v := (x2 + 1)) (lv' := [(2, .int (x2 + 1)), (0, .ref (ρ 499)), (1, .int x1)]) hx hb dX4_combine_104 hl (k := 2) rfl rfl (by decide) rfl (fun ls hl => ?_)
      refine lv_goto (tgt := 14) hx hb dX4_combine_107 (by decide) ?_
      exact ih _ _ _ _ _ _ _ h hw hg (lv_sub hl [1, 2, 0] rfl)
set_option maxRecDepth 100000 in
set_option maxHeartbeats 4000000 in
theorem cR_combine {l : Launch} {D : va_G} {κ : Nat → ClassId} {ρ : Nat → Nat} {g0 : Gh} {sz : Nat} {N : Nat} {σ : CSt} {q : Int32 × CSt} (h : fR_combine N σ = some q) : Met l yX4_combine wsX4_combine ({ frames := 3, cells := 0, slots := 0, locals := 69 } : Room) (va_Pc [.ref (ρ 499)] (PC D κ ρ sz g0 σ)) (QC D κ ρ sz g0 q.2 (some (.int q.1))) 0 0 (AC ρ g0 sz) := by
  refine cMetM (Qc := fun z => QC D κ ρ z g0 q.2 (some (.int q.1))) (ret := (some .int)) (by decide) rfl rfl (Nat.le_of_ble_eq_true rfl) ?_
  intro p e s m below meth c ls C hr hlk hw hl
  obtain ⟨g, eg⟩ : ∃ x, x = g0 := ⟨_, rfl⟩
  have hw : WC D κ ρ (AC ρ g0 s.heap.size) s.heap g σ s s.heap [] := by rw [eg]; exact hw
  have hg : sub g0 g := by rw [eg]; exact sub_rf g0
  have hl : lv_has ls 5 [(0, .ref (ρ 499))] := hl
  unfold fR_combine at h
  have hx := C.1
  have hb := C.2.1
  have hts := C.2.2.2.2
  have hown := C.2.2.2.1
  have k_18 := hts (.fieldLink RX4 18 "PlanCabinet$Runner" "starts" "[I") (by decide +kernel)
  have k_44 := hts (.fieldLink RX4 44 "PlanCabinet$Runner" "depth" "I") (by decide +kernel)
  have in_4 : ∀ w ∈ wsX40, w ∈ wsX4_combine := by decide +kernel
  refine lv_iconst (v := (0 : Int32)) hx hb dX4_combine_0 (by decide) ?_
  refine lv_istore_n (lv' := [(1, .int (0 : Int32)), (0, .ref (ρ 499))]) hx hb dX4_combine_1 rfl hl (by decide) rfl (fun ls hl => ?_)
  refine lv_aload_n hx hb dX4_combine_2 rfl (lv_at hl 1 rfl) ?_
  refine cG_404 C in_4 hw.1 k_18 dX4_combine_3 ?_
  refine lv_aload_n hx hb dX4_combine_6 rfl (lv_at hl 1 rfl) ?_
  refine cG_410 C in_4 hw.1 k_44 dX4_combine_7 ?_
  refine lv_iconst (v := (1 : Int32)) hx hb dX4_combine_10 (by decide) ?_
  refine lv_isub hx hb dX4_combine_11 ?_
  obtain ⟨b_12, h⟩ := chk_of h
  refine cL_404 C hw.1 b_12 dX4_combine_12 ?_
  refine lv_istore_n (lv' := [(2, .int (σ.2.2.1 404 ((σ.1 410) - (1 : Int32)).toNatClampNeg)), (1, .int (0 : Int32)), (0, .ref (ρ 499))]) hx hb dX4_combine_13 rfl hl (by decide) rfl (fun ls hl => ?_)
  exact wR_combine_L14 C hr hlk  _ _ _ _ _ _ _ _ h hw hg (lv_sub hl [2, 1, 0] rfl)
def fR_joinTopTwo_J148 (N : Nat) (σ : CSt) (x2 : Int32) (x3 : Int32) (x4 : Int32) : Option (CSt) := (fR_combine N σ).bind fun r_149 => chk (((cI r_149.2 410 ((r_149.2.1 410) - (1 : Int32))).1 410) - (1 : Int32)) 4 ((if (Int32.ofNat ((cA (cI r_149.2 410 ((r_149.2.1 410) - (1 : Int32))) 405 (((cI r_149.2 410 ((r_149.2.1 410) - (1 : Int32))).1 410) - (1 : Int32)).toNatClampNeg (x2 ||| x3)).2.2.2.2.2 403)) < r_149.1 then some (cA (cI r_149.2 410 ((r_149.2.1 410) - (1 : Int32))) 405 (((cI r_149.2 410 ((r_149.2.1 410) - (1 : Int32))).1 410) - (1 : Int32)).toNatClampNeg (x2 ||| x3)) else (if (Int32.ofNat ((cA (cI r_149.2 410 ((r_149.2.1 410) - (1 : Int32))) 405 (((cI r_149.2 410 ((r_149.2.1 410) - (1 : Int32))).1 410) - (1 : Int32)).toNatClampNeg (x2 ||| x3)).2.2.2.2.2 402)) < (x4 + r_149.1) then some (cA (cI r_149.2 410 ((r_149.2.1 410) - (1 : Int32))) 405 (((cI r_149.2 410 ((r_149.2.1 410) - (1 : Int32))).1 410) - (1 : Int32)).toNatClampNeg (x2 ||| x3)) else cpk ((cA (cI r_149.2 410 ((r_149.2.1 410) - (1 : Int32))) 405 (((cI r_149.2 410 ((r_149.2.1 410) - (1 : Int32))).1 410) - (1 : Int32)).toNatClampNeg (x2 ||| x3)).2.2.2.2.2 403) ((cA (cI r_149.2 410 ((r_149.2.1 410) - (1 : Int32))) 405 (((cI r_149.2 410 ((r_149.2.1 410) - (1 : Int32))).1 410) - (1 : Int32)).toNatClampNeg (x2 ||| x3)).2.2.2.2.2 402) (0 : Int32) x4 r_149.1 (chk ((cX (cA (cI r_149.2 410 ((r_149.2.1 410) - (1 : Int32))) 405 (((cI r_149.2 410 ((r_149.2.1 410) - (1 : Int32))).1 410) - (1 : Int32)).toNatClampNeg (x2 ||| x3)) 402 (va_cpy ((cA (cI r_149.2 410 ((r_149.2.1 410) - (1 : Int32))) 405 (((cI r_149.2 410 ((r_149.2.1 410) - (1 : Int32))).1 410) - (1 : Int32)).toNatClampNeg (x2 ||| x3)).2.2.1 403) ((cA (cI r_149.2 410 ((r_149.2.1 410) - (1 : Int32))) 405 (((cI r_149.2 410 ((r_149.2.1 410) - (1 : Int32))).1 410) - (1 : Int32)).toNatClampNeg (x2 ||| x3)).2.2.1 402) (0 : Int32).toNatClampNeg x4.toNatClampNeg r_149.1.toNatClampNeg)).1 410) 5 (some (cA (cX (cA (cI r_149.2 410 ((r_149.2.1 410) - (1 : Int32))) 405 (((cI r_149.2 410 ((r_149.2.1 410) - (1 : Int32))).1 410) - (1 : Int32)).toNatClampNeg (x2 ||| x3)) 402 (va_cpy ((cA (cI r_149.2 410 ((r_149.2.1 410) - (1 : Int32))) 405 (((cI r_149.2 410 ((r_149.2.1 410) - (1 : Int32))).1 410) - (1 : Int32)).toNatClampNeg (x2 ||| x3)).2.2.1 403) ((cA (cI r_149.2 410 ((r_149.2.1 410) - (1 : Int32))) 405 (((cI r_149.2 410 ((r_149.2.1 410) - (1 : Int32))).1 410) - (1 : Int32)).toNatClampNeg (x2 ||| x3)).2.2.1 402) (0 : Int32).toNatClampNeg x4.toNatClampNeg r_149.1.toNatClampNeg)) 404 ((cX (cA (cI r_149.2 410 ((r_149.2.1 410) - (1 : Int32))) 405 (((cI r_149.2 410 ((r_149.2.1 410) - (1 : Int32))).1 410) - (1 : Int32)).toNatClampNeg (x2 ||| x3)) 402 (va_cpy ((cA (cI r_149.2 410 ((r_149.2.1 410) - (1 : Int32))) 405 (((cI r_149.2 410 ((r_149.2.1 410) - (1 : Int32))).1 410) - (1 : Int32)).toNatClampNeg (x2 ||| x3)).2.2.1 403) ((cA (cI r_149.2 410 ((r_149.2.1 410) - (1 : Int32))) 405 (((cI r_149.2 410 ((r_149.2.1 410) - (1 : Int32))).1 410) - (1 : Int32)).toNatClampNeg (x2 ||| x3)).2.2.1 402) (0 : Int32).toNatClampNeg x4.toNatClampNeg r_149.1.toNatClampNeg)).1 410).toNatClampNeg (x4 + r_149.1)))))))
def fR_joinTopTwo (N : Nat) (σ : CSt) (x1 : Int32) : Option (CSt) := (if (σ.1 410) < (2 : Int32) then some σ else (if (σ.1 410) ≤ (4 : Int32) then chk ((σ.1 410) - (1 : Int32)) 4 (chk ((σ.1 410) - (2 : Int32)) 4 ((fR_findBetween N σ (σ.2.2.1 405 ((σ.1 410) - (1 : Int32)).toNatClampNeg) (σ.2.2.1 405 ((σ.1 410) - (2 : Int32)).toNatClampNeg)).bind fun r_44 => chk ((r_44.1 410) - (2 : Int32)) 5 (chk ((r_44.1 410) - (1 : Int32)) 5 (chk (r_44.1 410) 5 ((fR_joinSteps N x1 ((r_44.2.2.1 404 (r_44.1 410).toNatClampNeg) - (r_44.2.2.1 404 ((r_44.1 410) - (1 : Int32)).toNatClampNeg)) ((r_44.2.2.1 404 ((r_44.1 410) - (1 : Int32)).toNatClampNeg) - (r_44.2.2.1 404 ((r_44.1 410) - (2 : Int32)).toNatClampNeg))).bind fun r_100 => (if x1 = (2 : Int32) then chk (0 : Int32) 4 ((fQ_tableOn N (cI r_44 400 ((r_44.1 400) + r_100)) ((cI r_44 400 ((r_44.1 400) + r_100)).2.2.1 408 (0 : Int32).toNatClampNeg) (σ.2.2.1 405 ((σ.1 410) - (1 : Int32)).toNatClampNeg)).bind fun r_132 => (fQ_columnOn N (cI r_44 400 ((r_44.1 400) + r_100)) ((cI r_44 400 ((r_44.1 400) + r_100)).2.2.1 408 (0 : Int32).toNatClampNeg) (σ.2.2.1 405 ((σ.1 410) - (1 : Int32)).toNatClampNeg)).bind fun r_142 => (fR_sort N (cI r_44 400 ((r_44.1 400) + r_100)) (r_44.2.2.1 404 ((r_44.1 410) - (1 : Int32)).toNatClampNeg) (r_44.2.2.1 404 (r_44.1 410).toNatClampNeg) r_132 r_142).bind fun r_145 => fR_joinTopTwo_J148 N r_145 (σ.2.2.1 405 ((σ.1 410) - (1 : Int32)).toNatClampNeg) (σ.2.2.1 405 ((σ.1 410) - (2 : Int32)).toNatClampNeg) (r_44.2.2.1 404 ((r_44.1 410) - (2 : Int32)).toNatClampNeg)) else fR_joinTopTwo_J148 N (cI r_44 400 ((r_44.1 400) + r_100)) (σ.2.2.1 405 ((σ.1 410) - (1 : Int32)).toNatClampNeg) (σ.2.2.1 405 ((σ.1 410) - (2 : Int32)).toNatClampNeg) (r_44.2.2.1 404 ((r_44.1 410) - (2 : Int32)).toNatClampNeg))))))) else some σ))
set_option maxRecDepth 100000 in
set_option maxHeartbeats 4000000 in
theorem wR_joinTopTwo_J148 {p : Program} {l : Launch} {e : Env} {s : State} {m : MethodId} {args : Array Value} {below : List Frame} {meth : Method} {c : Code} {D : va_G} {κ : Nat → ClassId} {ρ : Nat → Nat} {g0 : Gh} (C : CallFix p m c cX4_joinTopTwo 8 s args wsX4_joinTopTwo RX4) (hr : meth.sig.returnType = none) (hlk : meth.locks = false) {N : Nat} {q : CSt} : ∀ (σ : CSt) (x2 : Int32) (x3 : Int32) (x4 : Int32) (g : Gh) (H : Heap) (locs : List Loc) (ls : Array Slot), fR_joinTopTwo_J148 N σ x2 x3 x4 = some q → WC D κ ρ (AC ρ g0 s.heap.size) s.heap g σ s H locs → sub g0 g → lv_has ls 8 [(0, .ref (ρ 499)), (2, .int x2), (3, .int x3), (4, .int x4)] → W p l e ({ frames := 4, cells := 0, slots := 0, locals := 93 } : Room) s m args below meth c H locs 0 0 (MQ below (QC D κ ρ s.heap.size g0 q none) args s 0 0 (AC ρ g0 s.heap.size)) (F0 m 148 ls []) := by
  have hx := C.1
  have hb := C.2.1
  have hts := C.2.2.2.2
  have hown := C.2.2.2.1
  have k_9 := hts (.fieldLink RX4 9 "PlanCabinet$Runner" "stack" "[I") (by decide +kernel)
  have k_15 := hts (.fieldLink RX4 15 "PlanCabinet$Runner" "joined" "[I") (by decide +kernel)
  have k_18 := hts (.fieldLink RX4 18 "PlanCabinet$Runner" "starts" "[I") (by decide +kernel)
  have k_21 := hts (.fieldLink RX4 21 "PlanCabinet$Runner" "sets" "[I") (by decide +kernel)
  have k_44 := hts (.fieldLink RX4 44 "PlanCabinet$Runner" "depth" "I") (by decide +kernel)
  have k_131 := hts (.methodLink RX4 131 arraycopyName) (by decide +kernel)
  have in_4 : ∀ w ∈ wsX40, w ∈ wsX4_joinTopTwo := by decide +kernel
  intro σ x2 x3 x4 g H locs ls h hw hg hl
  unfold fR_joinTopTwo_J148 at h
  refine lv_aload_n hx hb dX4_joinTopTwo_148 rfl (lv_at hl 0 rfl) ?_
  obtain ⟨r_149, e_149, h⟩ := bnd_of h
  refine callC (va_runV (As := []) C (cR_combine e_149) (cwV 0 hts gX4_joinTopTwo_X4_combine rfl rfl rfl (by decide +kernel) ⟨by decide, by decide⟩) (preM (recv_499 hw.1) hw) rfl rfl hl.1 rfl (lv_room (Nat.le_of_ble_eq_true rfl)) dX4_joinTopTwo_149 ⟨Nat.zero_le _, Nat.zero_le _⟩) hw (fun _ h => Or.inr h) (fun g H locs hs hw => ?_)
  have hg := sub_tr hg hs
  refine lv_istore (lv' := [(7, .int r_149.1), (0, .ref (ρ 499)), (2, .int x2), (3, .int x3), (4, .int x4)]) hx hb dX4_joinTopTwo_152 hl (by decide) rfl (fun ls hl => ?_)
  refine lv_aload_n hx hb dX4_joinTopTwo_154 rfl (lv_at hl 1 rfl) ?_
  refine lv_dup hx hb dX4_joinTopTwo_155 rfl ?_
  refine cG_410 C in_4 hw.1 k_44 dX4_joinTopTwo_156 ?_
  refine lv_iconst (v := (1 : Int32)) hx hb dX4_joinTopTwo_159 (by decide) ?_
  refine lv_isub hx hb dX4_joinTopTwo_160 ?_
  refine cPf_410 C in_4 hw k_44 dX4_joinTopTwo_161 (fun H locs hw => ?_)
  refine lv_aload_n hx hb dX4_joinTopTwo_164 rfl (lv_at hl 1 rfl) ?_
  refine cG_405 C in_4 hw.1 k_21 dX4_joinTopTwo_165 ?_
  refine lv_aload_n hx hb dX4_joinTopTwo_168 rfl (lv_at hl 1 rfl) ?_
  refine cG_410 C in_4 hw.1 k_44 dX4_joinTopTwo_169 ?_
  refine lv_iconst (v := (1 : Int32)) hx hb dX4_joinTopTwo_172 (by decide) ?_
  refine lv_isub hx hb dX4_joinTopTwo_173 ?_
  refine lv_iload_n hx hb dX4_joinTopTwo_174 rfl (lv_at hl 2 rfl) ?_
  refine lv_iload_n hx hb dX4_joinTopTwo_175 rfl (lv_at hl 3 rfl) ?_
  refine lv_ior hx hb dX4_joinTopTwo_176 ?_
  obtain ⟨b_177, h⟩ := chk_of h
  refine cS_405 C hw b_177 dX4_joinTopTwo_177 (fun H locs hw => ?_)
  refine lv_iload hx hb dX4_joinTopTwo_178 (lv_at hl 0 rfl) ?_
  refine lv_aload_n hx hb dX4_joinTopTwo_180 rfl (lv_at hl 1 rfl) ?_
  refine cG_403 C in_4 hw.1 k_15 dX4_joinTopTwo_181 ?_
  refine cLen_403 C hw.1 dX4_joinTopTwo_184 ?_
  refine lv_icmp_gt (tgt := 231) hx hb dX4_joinTopTwo_185 (by decide) (fun c_185 => ?_) (fun c_185 => ?_)
  · have h := zz_pos c_185 h
    exact W.vret hx hb hr (fun t ht hW => QC.of rfl (by rw [← some_of h]; exact hw) hg ht hW) hw.2.2.2.2 dX4_joinTopTwo_231
  · have h := zz_neg c_185 h
    refine lv_iload hx hb dX4_joinTopTwo_188 (lv_at hl 4 rfl) ?_
    refine lv_iload hx hb dX4_joinTopTwo_190 (lv_at hl 0 rfl) ?_
    refine lv_iadd hx hb dX4_joinTopTwo_192 ?_
    refine lv_aload_n hx hb dX4_joinTopTwo_193 rfl (lv_at hl 1 rfl) ?_
    refine cG_402 C in_4 hw.1 k_9 dX4_joinTopTwo_194 ?_
    refine cLen_402 C hw.1 dX4_joinTopTwo_197 ?_
    refine lv_icmp_gt (tgt := 231) hx hb dX4_joinTopTwo_198 (by decide) (fun c_198 => ?_) (fun c_198 => ?_)
    · have h := zz_pos c_198 h
      exact W.vret hx hb hr (fun t ht hW => QC.of rfl (by rw [← some_of h]; exact hw) hg ht hW) hw.2.2.2.2 dX4_joinTopTwo_231
    · have h := zz_neg c_198 h
      refine lv_aload_n hx hb dX4_joinTopTwo_201 rfl (lv_at hl 1 rfl) ?_
      refine cG_403 C in_4 hw.1 k_15 dX4_joinTopTwo_202 ?_
      refine lv_iconst (v := (0 : Int32)) hx hb dX4_joinTopTwo_205 (by decide) ?_
      refine lv_aload_n hx hb dX4_joinTopTwo_206 rfl (lv_at hl 1 rfl) ?_
      refine cG_402 C in_4 hw.1 k_9 dX4_joinTopTwo_207 ?_
      refine lv_iload hx hb dX4_joinTopTwo_210 (lv_at hl 4 rfl) ?_
      refine lv_iload hx hb dX4_joinTopTwo_212 (lv_at hl 0 rfl) ?_
      obtain ⟨b_214, h⟩ := cpk_of h
      refine cCopy C hl.1 hw k_131 (hts (.native arraycopyName) (by decide +kernel)) (hts (.static arraycopyName) (by decide +kernel)) (hts (.initialized "java/lang/System") (by decide +kernel)) b_214 (by decide) (Nat.le_of_ble_eq_true rfl) dX4_joinTopTwo_214 (fun H locs hw => ?_)
      refine lv_aload_n hx hb dX4_joinTopTwo_217 rfl (lv_at hl 1 rfl) ?_
      refine cG_404 C in_4 hw.1 k_18 dX4_joinTopTwo_218 ?_
      refine lv_aload_n hx hb dX4_joinTopTwo_221 rfl (lv_at hl 1 rfl) ?_
      refine cG_410 C in_4 hw.1 k_44 dX4_joinTopTwo_222 ?_
      refine lv_iload hx hb dX4_joinTopTwo_225 (lv_at hl 4 rfl) ?_
      refine lv_iload hx hb dX4_joinTopTwo_227 (lv_at hl 0 rfl) ?_
      refine lv_iadd hx hb dX4_joinTopTwo_229 ?_
      obtain ⟨b_230, h⟩ := chk_of h
      refine cS_404 C hw b_230 dX4_joinTopTwo_230 (fun H locs hw => ?_)
      exact W.vret hx hb hr (fun t ht hW => QC.of rfl (by rw [← some_of h]; exact hw) hg ht hW) hw.2.2.2.2 dX4_joinTopTwo_231
set_option maxRecDepth 100000 in
set_option maxHeartbeats 4000000 in
theorem cR_joinTopTwo {l : Launch} {D : va_G} {κ : Nat → ClassId} {ρ : Nat → Nat} {g0 : Gh} {sz : Nat} {N : Nat} {σ : CSt} {x1 : Int32} {q : CSt} (h : fR_joinTopTwo N σ x1 = some q) : Met l yX4_joinTopTwo wsX4_joinTopTwo ({ frames := 4, cells := 0, slots := 0, locals := 93 } : Room) (va_Pc [.ref (ρ 499), .int x1] (PC D κ ρ sz g0 σ)) (QC D κ ρ sz g0 q none) 0 0 (AC ρ g0 sz) := by
  refine cMetM (Qc := fun z => QC D κ ρ z g0 q none) (ret := none) (by decide) rfl rfl (Nat.le_of_ble_eq_true rfl) ?_
  intro p e s m below meth c ls C hr hlk hw hl
  obtain ⟨g, eg⟩ : ∃ x, x = g0 := ⟨_, rfl⟩
  have hw : WC D κ ρ (AC ρ g0 s.heap.size) s.heap g σ s s.heap [] := by rw [eg]; exact hw
  have hg : sub g0 g := by rw [eg]; exact sub_rf g0
  have hl : lv_has ls 8 [(0, .ref (ρ 499)), (1, .int x1)] := hl
  unfold fR_joinTopTwo at h
  have hx := C.1
  have hb := C.2.1
  have hts := C.2.2.2.2
  have hown := C.2.2.2.1
  have k_18 := hts (.fieldLink RX4 18 "PlanCabinet$Runner" "starts" "[I") (by decide +kernel)
  have k_21 := hts (.fieldLink RX4 21 "PlanCabinet$Runner" "sets" "[I") (by decide +kernel)
  have k_30 := hts (.fieldLink RX4 30 "PlanCabinet$Runner" "between" "[I") (by decide +kernel)
  have k_33 := hts (.fieldLink RX4 33 "PlanCabinet$Runner" "question" "LPlanCabinet$Question;") (by decide +kernel)
  have k_40 := hts (.fieldLink RX4 40 "PlanCabinet$Runner" "stepCount" "I") (by decide +kernel)
  have k_44 := hts (.fieldLink RX4 44 "PlanCabinet$Runner" "depth" "I") (by decide +kernel)
  have in_4 : ∀ w ∈ wsX40, w ∈ wsX4_joinTopTwo := by decide +kernel
  refine lv_aload_n hx hb dX4_joinTopTwo_0 rfl (lv_at hl 0 rfl) ?_
  refine cG_410 C in_4 hw.1 k_44 dX4_joinTopTwo_1 ?_
  refine lv_iconst (v := (2 : Int32)) hx hb dX4_joinTopTwo_4 (by decide) ?_
  refine lv_icmp_lt (tgt := 16) hx hb dX4_joinTopTwo_5 (by decide) (fun c_5 => ?_) (fun c_5 => ?_)
  · have h := zz_pos c_5 h
    exact W.vret hx hb hr (fun t ht hW => QC.of rfl (by rw [← some_of h]; exact hw) hg ht hW) hw.2.2.2.2 dX4_joinTopTwo_16
  · have h := zz_neg c_5 h
    refine lv_aload_n hx hb dX4_joinTopTwo_8 rfl (lv_at hl 0 rfl) ?_
    refine cG_410 C in_4 hw.1 k_44 dX4_joinTopTwo_9 ?_
    refine lv_iconst (v := (4 : Int32)) hx hb dX4_joinTopTwo_12 (by decide) ?_
    refine lv_icmp_le (tgt := 17) hx hb dX4_joinTopTwo_13 (by decide) (fun c_13 => ?_) (fun c_13 => ?_)
    · have h := zz_pos c_13 h
      refine lv_aload_n hx hb dX4_joinTopTwo_17 rfl (lv_at hl 0 rfl) ?_
      refine cG_405 C in_4 hw.1 k_21 dX4_joinTopTwo_18 ?_
      refine lv_aload_n hx hb dX4_joinTopTwo_21 rfl (lv_at hl 0 rfl) ?_
      refine cG_410 C in_4 hw.1 k_44 dX4_joinTopTwo_22 ?_
      refine lv_iconst (v := (1 : Int32)) hx hb dX4_joinTopTwo_25 (by decide) ?_
      refine lv_isub hx hb dX4_joinTopTwo_26 ?_
      obtain ⟨b_27, h⟩ := chk_of h
      refine cL_405 C hw.1 b_27 dX4_joinTopTwo_27 ?_
      refine lv_istore_n (lv' := [(2, .int (σ.2.2.1 405 ((σ.1 410) - (1 : Int32)).toNatClampNeg)), (0, .ref (ρ 499)), (1, .int x1)]) hx hb dX4_joinTopTwo_28 rfl hl (by decide) rfl (fun ls hl => ?_)
      refine lv_aload_n hx hb dX4_joinTopTwo_29 rfl (lv_at hl 1 rfl) ?_
      refine cG_405 C in_4 hw.1 k_21 dX4_joinTopTwo_30 ?_
      refine lv_aload_n hx hb dX4_joinTopTwo_33 rfl (lv_at hl 1 rfl) ?_
      refine cG_410 C in_4 hw.1 k_44 dX4_joinTopTwo_34 ?_
      refine lv_iconst (v := (2 : Int32)) hx hb dX4_joinTopTwo_37 (by decide) ?_
      refine lv_isub hx hb dX4_joinTopTwo_38 ?_
      obtain ⟨b_39, h⟩ := chk_of h
      refine cL_405 C hw.1 b_39 dX4_joinTopTwo_39 ?_
      refine lv_istore_n (lv' := [(3, .int (σ.2.2.1 405 ((σ.1 410) - (2 : Int32)).toNatClampNeg)), (2, .int (σ.2.2.1 405 ((σ.1 410) - (1 : Int32)).toNatClampNeg)), (0, .ref (ρ 499)), (1, .int x1)]) hx hb dX4_joinTopTwo_40 rfl hl (by decide) rfl (fun ls hl => ?_)
      refine lv_aload_n hx hb dX4_joinTopTwo_41 rfl (lv_at hl 2 rfl) ?_
      refine lv_iload_n hx hb dX4_joinTopTwo_42 rfl (lv_at hl 1 rfl) ?_
      refine lv_iload_n hx hb dX4_joinTopTwo_43 rfl (lv_at hl 0 rfl) ?_
      obtain ⟨r_44, e_44, h⟩ := bnd_of h
      refine callC (va_runV (As := [.int (σ.2.2.1 405 ((σ.1 410) - (1 : Int32)).toNatClampNeg), .int (σ.2.2.1 405 ((σ.1 410) - (2 : Int32)).toNatClampNeg)]) C (cR_findBetween e_44) (cwV 2 hts gX4_joinTopTwo_X4_findBetween rfl rfl rfl (by decide +kernel) ⟨by decide, by decide⟩) (preM (recv_499 hw.1) hw) rfl rfl hl.1 rfl (lv_room (Nat.le_of_ble_eq_true rfl)) dX4_joinTopTwo_44 ⟨Nat.zero_le _, Nat.zero_le _⟩) hw (fun _ h => Or.inr h) (fun g H locs hs hw => ?_)
      have hg := sub_tr hg hs
      refine lv_aload_n hx hb dX4_joinTopTwo_47 rfl (lv_at hl 2 rfl) ?_
      refine cG_404 C in_4 hw.1 k_18 dX4_joinTopTwo_48 ?_
      refine lv_aload_n hx hb dX4_joinTopTwo_51 rfl (lv_at hl 2 rfl) ?_
      refine cG_410 C in_4 hw.1 k_44 dX4_joinTopTwo_52 ?_
      refine lv_iconst (v := (2 : Int32)) hx hb dX4_joinTopTwo_55 (by decide) ?_
      refine lv_isub hx hb dX4_joinTopTwo_56 ?_
      obtain ⟨b_57, h⟩ := chk_of h
      refine cL_404 C hw.1 b_57 dX4_joinTopTwo_57 ?_
      refine lv_istore (lv' := [(4, .int (r_44.2.2.1 404 ((r_44.1 410) - (2 : Int32)).toNatClampNeg)), (3, .int (σ.2.2.1 405 ((σ.1 410) - (2 : Int32)).toNatClampNeg)), (2, .int (σ.2.2.1 405 ((σ.1 410) - (1 : Int32)).toNatClampNeg)), (0, .ref (ρ 499)), (1, .int x1)]) hx hb dX4_joinTopTwo_58 hl (by decide) rfl (fun ls hl => ?_)
      refine lv_aload_n hx hb dX4_joinTopTwo_60 rfl (lv_at hl 3 rfl) ?_
      refine cG_404 C in_4 hw.1 k_18 dX4_joinTopTwo_61 ?_
      refine lv_aload_n hx hb dX4_joinTopTwo_64 rfl (lv_at hl 3 rfl) ?_
      refine cG_410 C in_4 hw.1 k_44 dX4_joinTopTwo_65 ?_
      refine lv_iconst (v := (1 : Int32)) hx hb dX4_joinTopTwo_68 (by decide) ?_
      refine lv_isub hx hb dX4_joinTopTwo_69 ?_
      obtain ⟨b_70, h⟩ := chk_of h
      refine cL_404 C hw.1 b_70 dX4_joinTopTwo_70 ?_
      refine lv_istore (lv' := [(5, .int (r_44.2.2.1 404 ((r_44.1 410) - (1 : Int32)).toNatClampNeg)), (4, .int (r_44.2.2.1 404 ((r_44.1 410) - (2 : Int32)).toNatClampNeg)), (3, .int (σ.2.2.1 405 ((σ.1 410) - (2 : Int32)).toNatClampNeg)), (2, .int (σ.2.2.1 405 ((σ.1 410) - (1 : Int32)).toNatClampNeg)), (0, .ref (ρ 499)), (1, .int x1)]) hx hb dX4_joinTopTwo_71 hl (by decide) rfl (fun ls hl => ?_)
      refine lv_aload_n hx hb dX4_joinTopTwo_73 rfl (lv_at hl 4 rfl) ?_
      refine cG_404 C in_4 hw.1 k_18 dX4_joinTopTwo_74 ?_
      refine lv_aload_n hx hb dX4_joinTopTwo_77 rfl (lv_at hl 4 rfl) ?_
      refine cG_410 C in_4 hw.1 k_44 dX4_joinTopTwo_78 ?_
      obtain ⟨b_81, h⟩ := chk_of h
      refine cL_404 C hw.1 b_81 dX4_joinTopTwo_81 ?_
      refine lv_istore (lv' := [(6, .int (r_44.2.2.1 404 (r_44.1 410).toNatClampNeg)), (5, .int (r_44.2.2.1 404 ((r_44.1 410) - (1 : Int32)).toNatClampNeg)), (4, .int (r_44.2.2.1 404 ((r_44.1 410) - (2 : Int32)).toNatClampNeg)), (3, .int (σ.2.2.1 405 ((σ.1 410) - (2 : Int32)).toNatClampNeg)), (2, .int (σ.2.2.1 405 ((σ.1 410) - (1 : Int32)).toNatClampNeg)), (0, .ref (ρ 499)), (1, .int x1)]) hx hb dX4_joinTopTwo_82 hl (by decide) rfl (fun ls hl => ?_)
      refine lv_aload_n hx hb dX4_joinTopTwo_84 rfl (lv_at hl 5 rfl) ?_
      refine lv_dup hx hb dX4_joinTopTwo_85 rfl ?_
      refine cG_400 C in_4 hw.1 k_40 dX4_joinTopTwo_86 ?_
      refine lv_iload_n hx hb dX4_joinTopTwo_89 rfl (lv_at hl 6 rfl) ?_
      refine lv_iload hx hb dX4_joinTopTwo_90 (lv_at hl 0 rfl) ?_
      refine lv_iload hx hb dX4_joinTopTwo_92 (lv_at hl 1 rfl) ?_
      refine lv_isub hx hb dX4_joinTopTwo_94 ?_
      refine lv_iload hx hb dX4_joinTopTwo_95 (lv_at hl 1 rfl) ?_
      refine lv_iload hx hb dX4_joinTopTwo_97 (lv_at hl 2 rfl) ?_
      refine lv_isub hx hb dX4_joinTopTwo_99 ?_
      obtain ⟨r_100, e_100, h⟩ := bnd_of h
      refine callP (W.runS (As := [.int x1, .int ((r_44.2.2.1 404 (r_44.1 410).toNatClampNeg) - (r_44.2.2.1 404 ((r_44.1 410) - (1 : Int32)).toNatClampNeg)), .int ((r_44.2.2.1 404 ((r_44.1 410) - (1 : Int32)).toNatClampNeg) - (r_44.2.2.1 404 ((r_44.1 410) - (2 : Int32)).toNatClampNeg))]) C (cR_joinSteps e_100) (cwS 3 hts gX4_joinTopTwo_X4_joinSteps rfl rfl rfl (by decide +kernel) ⟨by decide, by decide⟩) preT rfl rfl hl.1 rfl (lv_room (Nat.le_of_ble_eq_true rfl)) dX4_joinTopTwo_100 ⟨Nat.zero_le _, Nat.zero_le _⟩) ?_
      refine lv_iadd hx hb dX4_joinTopTwo_103 ?_
      refine cPf_400 C in_4 hw k_40 dX4_joinTopTwo_104 (fun H locs hw => ?_)
      refine lv_iload_n hx hb dX4_joinTopTwo_107 rfl (lv_at hl 6 rfl) ?_
      refine lv_iconst (v := (2 : Int32)) hx hb dX4_joinTopTwo_108 (by decide) ?_
      refine lv_icmp_ne (tgt := 148) hx hb dX4_joinTopTwo_109 (by decide) (fun c_109 => ?_) (fun c_109 => ?_)
      · have h := zz_neg c_109 h
        exact wR_joinTopTwo_J148 C hr hlk  _ _ _ _ _ _ _ _ h hw hg (lv_sub hl [5, 4, 3, 2] rfl)
      · have h := zz_pos c_109 h
        refine lv_aload_n hx hb dX4_joinTopTwo_112 rfl (lv_at hl 5 rfl) ?_
        refine cG_408 C in_4 hw.1 k_30 dX4_joinTopTwo_113 ?_
        refine lv_iconst (v := (0 : Int32)) hx hb dX4_joinTopTwo_116 (by decide) ?_
        obtain ⟨b_117, h⟩ := chk_of h
        refine cL_408 C hw.1 b_117 dX4_joinTopTwo_117 ?_
        refine lv_istore (lv' := [(7, .int ((cI r_44 400 ((r_44.1 400) + r_100)).2.2.1 408 (0 : Int32).toNatClampNeg)), (6, .int (r_44.2.2.1 404 (r_44.1 410).toNatClampNeg)), (5, .int (r_44.2.2.1 404 ((r_44.1 410) - (1 : Int32)).toNatClampNeg)), (4, .int (r_44.2.2.1 404 ((r_44.1 410) - (2 : Int32)).toNatClampNeg)), (3, .int (σ.2.2.1 405 ((σ.1 410) - (2 : Int32)).toNatClampNeg)), (2, .int (σ.2.2.1 405 ((σ.1 410) - (1 : Int32)).toNatClampNeg)), (0, .ref (ρ 499)), (1, .int x1)]) hx hb dX4_joinTopTwo_118 hl (by decide) rfl (fun ls hl => ?_)
        refine lv_aload_n hx hb dX4_joinTopTwo_120 rfl (lv_at hl 6 rfl) ?_
        refine lv_iload hx hb dX4_joinTopTwo_121 (lv_at hl 2 rfl) ?_
        refine lv_iload hx hb dX4_joinTopTwo_123 (lv_at hl 1 rfl) ?_
        refine lv_aload_n hx hb dX4_joinTopTwo_125 rfl (lv_at hl 6 rfl) ?_
        refine cG_401 C in_4 hw.1 k_33 dX4_joinTopTwo_126 ?_
        refine lv_iload hx hb dX4_joinTopTwo_129 (lv_at hl 0 rfl) ?_
        refine lv_iload_n hx hb dX4_joinTopTwo_131 rfl (lv_at hl 5 rfl) ?_
        obtain ⟨r_132, e_132, h⟩ := bnd_of h
        refine callP (W.runV (As := [.int ((cI r_44 400 ((r_44.1 400) + r_100)).2.2.1 408 (0 : Int32).toNatClampNeg), .int (σ.2.2.1 405 ((σ.1 410) - (1 : Int32)).toNatClampNeg)]) C (cQ_tableOn e_132) (cwV 2 hts gX4_joinTopTwo_X3_tableOn rfl rfl rfl (by decide +kernel) ⟨by decide, by decide⟩) (preR (recv_399 hw.1) hw.1) rfl rfl hl.1 rfl (lv_room (Nat.le_of_ble_eq_true rfl)) dX4_joinTopTwo_132 ⟨Nat.zero_le _, Nat.zero_le _⟩) ?_
        refine lv_aload_n hx hb dX4_joinTopTwo_135 rfl (lv_at hl 6 rfl) ?_
        refine cG_401 C in_4 hw.1 k_33 dX4_joinTopTwo_136 ?_
        refine lv_iload hx hb dX4_joinTopTwo_139 (lv_at hl 0 rfl) ?_
        refine lv_iload_n hx hb dX4_joinTopTwo_141 rfl (lv_at hl 5 rfl) ?_
        obtain ⟨r_142, e_142, h⟩ := bnd_of h
        refine callP (W.runV (As := [.int ((cI r_44 400 ((r_44.1 400) + r_100)).2.2.1 408 (0 : Int32).toNatClampNeg), .int (σ.2.2.1 405 ((σ.1 410) - (1 : Int32)).toNatClampNeg)]) C (cQ_columnOn e_142) (cwV 2 hts gX4_joinTopTwo_X3_columnOn rfl rfl rfl (by decide +kernel) ⟨by decide, by decide⟩) (preR (recv_399 hw.1) hw.1) rfl rfl hl.1 rfl (lv_room (Nat.le_of_ble_eq_true rfl)) dX4_joinTopTwo_142 ⟨Nat.zero_le _, Nat.zero_le _⟩) ?_
        obtain ⟨r_145, e_145, h⟩ := bnd_of h
        refine callC (va_runV (As := [.int (r_44.2.2.1 404 ((r_44.1 410) - (1 : Int32)).toNatClampNeg), .int (r_44.2.2.1 404 (r_44.1 410).toNatClampNeg), .int r_132, .int r_142]) C (cR_sort e_145) (cwV 4 hts gX4_joinTopTwo_X4_sort rfl rfl rfl (by decide +kernel) ⟨by decide, by decide⟩) (preM (recv_499 hw.1) hw) rfl rfl hl.1 rfl (lv_room (Nat.le_of_ble_eq_true rfl)) dX4_joinTopTwo_145 ⟨Nat.zero_le _, Nat.zero_le _⟩) hw (fun _ h => Or.inr h) (fun g H locs hs hw => ?_)
        have hg := sub_tr hg hs
        exact wR_joinTopTwo_J148 C hr hlk  _ _ _ _ _ _ _ _ h hw hg (lv_sub hl [6, 5, 4, 3] rfl)
    · have h := zz_neg c_13 h
      exact W.vret hx hb hr (fun t ht hW => QC.of rfl (by rw [← some_of h]; exact hw) hg ht hW) hw.2.2.2.2 dX4_joinTopTwo_16
