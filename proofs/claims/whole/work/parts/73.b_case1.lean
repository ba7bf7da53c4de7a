set_option maxRecDepth 100000 in
set_option maxHeartbeats 4000000 in
theorem lw_case_11 {p : Program} {l : Launch} {e : Env} {s : State} {m : MethodId} {below : List Frame} {meth : Method} {c : Code} {b L N k ce sl : Nat} {xs : Nat → Int32} {D : va_G} {κ κ' : Nat → ClassId} {ρ ρ' : Nat → Nat} {g : Gh} {σ : CSt} {τ : MSt} {H : Heap} {locs : List Loc} {ls : Array Slot} (C : CallFix p m c cL_law 4 s #[Value.ref b] wsL_law RL) (hX : va_X b L xs s s.heap) (hbl : b < s.heap.size) (hL : L ≤ 3072) (h6 : 6 * k + 6 ≤ L) {z : CSt × MSt} (h : law_11 N (xs (6 * k + 1)) (xs (6 * k + 2)) (xs (6 * k + 3)) (xs (6 * k + 4)) (xs (6 * k + 5)) σ τ = some z) (hw : LW D κ ρ g σ κ' ρ' τ s H locs) (hl : lv_has ls 4 [(0, .ref b), (1, .ref (ρ 699)), (2, .ref (ρ' 40)), (3, .int (nI (6 * k)))]) (hc : ce ≤ 63 + 243 * k ∧ sl ≤ 684524 + 8200 * k) (hK : ∀ (g : Gh) (H : Heap) (locs : List Loc) (ce sl : Nat) (ls : Array Slot), LW D κ ρ g z.1 κ' ρ' z.2 s H locs → ce ≤ 63 + 243 * (k + 1) ∧ sl ≤ 684524 + 8200 * (k + 1) → lv_has ls 4 [(0, .ref b), (1, .ref (ρ 699)), (2, .ref (ρ' 40)), (3, .int (nI (6 * k)))] → W p l e room_1 s m #[Value.ref b] below meth c H locs ce sl (lw_Z below #[Value.ref b] s) (F0 m 791 ls [])) : W p l e room_1 s m #[Value.ref b] below meth c H locs ce sl (lw_Z below #[Value.ref b] s) (F0 m 504 ls []) := by
  obtain ⟨hx, hb, hml, hown, hts⟩ := id C
  unfold law_11 at h
  refine lv_aload_n hx hb dL_law_504 rfl (lv_at hl 1 rfl) ?_
  obtain ⟨q, e_q, h⟩ := bnd_of h
  refine lawC (va_runV (As := []) C (cC_spans e_q) (cwV 0 hts gL_law_X6_spans rfl rfl rfl (by decide +kernel) ⟨Nat.le_of_ble_eq_true rfl, Nat.le_of_ble_eq_true rfl⟩) (preM (recv_699 hw.1.1) hw.1) rfl rfl hl.1 rfl (lv_room (Nat.le_of_ble_eq_true rfl)) dL_law_505 ⟨by show _ ≤ 600000; omega, by show _ ≤ 7302250; omega⟩) hw (fun g H locs hw => ?_)
  obtain ⟨ce, ec⟩ : ∃ x, x = ce + 243 := ⟨_, rfl⟩
  obtain ⟨sl, es⟩ : ∃ x, x = sl + 1215 := ⟨_, rfl⟩
  rw [← ec, ← es]
  refine lv_aload_n hx hb dL_law_508 rfl (lv_at hl 2 rfl) ?_
  obtain ⟨r, e_r, h⟩ := bnd_of h
  refine lawM (va_runV (As := []) C (cM_spans e_r) (cwV 0 hts gL_law_X7_spans rfl rfl rfl (by decide +kernel) ⟨Nat.le_of_ble_eq_true rfl, Nat.le_of_ble_eq_true rfl⟩) (mPreM hw.2.2.2.1 hw.2.1 hw.2.2.1 _) rfl rfl hl.1 rfl (lv_room (Nat.le_of_ble_eq_true rfl)) dL_law_509 ⟨by show _ ≤ 600000; omega, by show _ ≤ 7302250; omega⟩) hw (fun H locs hw => ?_)
  refine lv_icmp_eq (tgt := 791) hx hb dL_law_512 (by decide) (fun cc => ?_) (fun cc => ?_)
  · have h := zz_pos cc h
    have h := some_of h
    subst h
    exact hK _ _ _ _ _ _ hw (by omega) hl
  · have h := zz_neg cc h
    cases h
set_option maxRecDepth 100000 in
set_option maxHeartbeats 4000000 in
theorem lw_case_12 {p : Program} {l : Launch} {e : Env} {s : State} {m : MethodId} {below : List Frame} {meth : Method} {c : Code} {b L N k ce sl : Nat} {xs : Nat → Int32} {D : va_G} {κ κ' : Nat → ClassId} {ρ ρ' : Nat → Nat} {g : Gh} {σ : CSt} {τ : MSt} {H : Heap} {locs : List Loc} {ls : Array Slot} (C : CallFix p m c cL_law 4 s #[Value.ref b] wsL_law RL) (hX : va_X b L xs s s.heap) (hbl : b < s.heap.size) (hL : L ≤ 3072) (h6 : 6 * k + 6 ≤ L) {z : CSt × MSt} (h : law_12 N (xs (6 * k + 1)) (xs (6 * k + 2)) (xs (6 * k + 3)) (xs (6 * k + 4)) (xs (6 * k + 5)) σ τ = some z) (hw : LW D κ ρ g σ κ' ρ' τ s H locs) (hl : lv_has ls 4 [(0, .ref b), (1, .ref (ρ 699)), (2, .ref (ρ' 40)), (3, .int (nI (6 * k)))]) (hc : ce ≤ 63 + 243 * k ∧ sl ≤ 684524 + 8200 * k) (hK : ∀ (g : Gh) (H : Heap) (locs : List Loc) (ce sl : Nat) (ls : Array Slot), LW D κ ρ g z.1 κ' ρ' z.2 s H locs → ce ≤ 63 + 243 * (k + 1) ∧ sl ≤ 684524 + 8200 * (k + 1) → lv_has ls 4 [(0, .ref b), (1, .ref (ρ 699)), (2, .ref (ρ' 40)), (3, .int (nI (6 * k)))] → W p l e room_1 s m #[Value.ref b] below meth c H locs ce sl (lw_Z below #[Value.ref b] s) (F0 m 791 ls [])) : W p l e room_1 s m #[Value.ref b] below meth c H locs ce sl (lw_Z below #[Value.ref b] s) (F0 m 517 ls []) := by
  obtain ⟨hx, hb, hml, hown, hts⟩ := id C
  unfold law_12 at h
  refine lv_aload_n hx hb dL_law_517 rfl (lv_at hl 1 rfl) ?_
  refine lv_aload_n hx hb dL_law_518 rfl (lv_at hl 0 rfl) ?_
  refine lv_iload_n hx hb dL_law_519 rfl (lv_at hl 3 rfl) ?_
  refine lv_iconst (v := (1 : Int32)) hx hb dL_law_520 (by decide) ?_
  refine lv_iadd hx hb dL_law_521 ?_
  refine lawLd (j := 1) (lawJ1 k) h6 (by decide) hL hX hbl hw.1.2.2 hx hb dL_law_522 ?_
  refine lv_aload_n hx hb dL_law_523 rfl (lv_at hl 0 rfl) ?_
  refine lv_iload_n hx hb dL_law_524 rfl (lv_at hl 3 rfl) ?_
  refine lv_iconst (v := (2 : Int32)) hx hb dL_law_525 (by decide) ?_
  refine lv_iadd hx hb dL_law_526 ?_
  refine lawLd (j := 2) (lawJ2 k) h6 (by decide) hL hX hbl hw.1.2.2 hx hb dL_law_527 ?_
  obtain ⟨q, e_q, h⟩ := bnd_of h
  refine lawC (va_runV (As := [.int (xs (6 * k + 1)), .int (xs (6 * k + 2))]) C (cC_border e_q) (cwV 2 hts gL_law_X6_border rfl rfl rfl (by decide +kernel) ⟨Nat.le_of_ble_eq_true rfl, Nat.le_of_ble_eq_true rfl⟩) (preM (recv_699 hw.1.1) hw.1) rfl rfl hl.1 rfl (lv_room (Nat.le_of_ble_eq_true rfl)) dL_law_528 ⟨by show _ ≤ 600000; omega, by show _ ≤ 7302250; omega⟩) hw (fun g H locs hw => ?_)
  obtain ⟨ce, ec⟩ : ∃ x, x = ce + 243 := ⟨_, rfl⟩
  obtain ⟨sl, es⟩ : ∃ x, x = sl + 1215 := ⟨_, rfl⟩
  rw [← ec, ← es]
  refine lv_aload_n hx hb dL_law_531 rfl (lv_at hl 2 rfl) ?_
  refine lv_aload_n hx hb dL_law_532 rfl (lv_at hl 0 rfl) ?_
  refine lv_iload_n hx hb dL_law_533 rfl (lv_at hl 3 rfl) ?_
  refine lv_iconst (v := (1 : Int32)) hx hb dL_law_534 (by decide) ?_
  refine lv_iadd hx hb dL_law_535 ?_
  refine lawLd (j := 1) (lawJ1 k) h6 (by decide) hL hX hbl hw.1.2.2 hx hb dL_law_536 ?_
  refine lv_aload_n hx hb dL_law_537 rfl (lv_at hl 0 rfl) ?_
  refine lv_iload_n hx hb dL_law_538 rfl (lv_at hl 3 rfl) ?_
  refine lv_iconst (v := (2 : Int32)) hx hb dL_law_539 (by decide) ?_
  refine lv_iadd hx hb dL_law_540 ?_
  refine lawLd (j := 2) (lawJ2 k) h6 (by decide) hL hX hbl hw.1.2.2 hx hb dL_law_541 ?_
  obtain ⟨r, e_r, h⟩ := bnd_of h
  refine lawM (va_runV (As := [.int (xs (6 * k + 1)), .int (xs (6 * k + 2))]) C (cM_border e_r) (cwV 2 hts gL_law_X7_border rfl rfl rfl (by decide +kernel) ⟨Nat.le_of_ble_eq_true rfl, Nat.le_of_ble_eq_true rfl⟩) (mPreM hw.2.2.2.1 hw.2.1 hw.2.2.1 _) rfl rfl hl.1 rfl (lv_room (Nat.le_of_ble_eq_true rfl)) dL_law_542 ⟨by show _ ≤ 600000; omega, by show _ ≤ 7302250; omega⟩) hw (fun H locs hw => ?_)
  refine W.lcmp hx hb dL_law_545 ?_
  refine lv_if_eq (tgt := 791) hx hb dL_law_546 (by decide) (fun cc => ?_) (fun cc => ?_)
  · have h := zz_pos cc h
    have h := some_of h
    subst h
    exact hK _ _ _ _ _ _ hw (by omega) hl
  · have h := zz_neg cc h
    cases h
set_option maxRecDepth 100000 in
set_option maxHeartbeats 4000000 in
theorem lw_case_13 {p : Program} {l : Launch} {e : Env} {s : State} {m : MethodId} {below : List Frame} {meth : Method} {c : Code} {b L N k ce sl : Nat} {xs : Nat → Int32} {D : va_G} {κ κ' : Nat → ClassId} {ρ ρ' : Nat → Nat} {g : Gh} {σ : CSt} {τ : MSt} {H : Heap} {locs : List Loc} {ls : Array Slot} (C : CallFix p m c cL_law 4 s #[Value.ref b] wsL_law RL) (hX : va_X b L xs s s.heap) (hbl : b < s.heap.size) (hL : L ≤ 3072) (h6 : 6 * k + 6 ≤ L) {z : CSt × MSt} (h : law_13 N (xs (6 * k + 1)) (xs (6 * k + 2)) (xs (6 * k + 3)) (xs (6 * k + 4)) (xs (6 * k + 5)) σ τ = some z) (hw : LW D κ ρ g σ κ' ρ' τ s H locs) (hl : lv_has ls 4 [(0, .ref b), (1, .ref (ρ 699)), (2, .ref (ρ' 40)), (3, .int (nI (6 * k)))]) (hc : ce ≤ 63 + 243 * k ∧ sl ≤ 684524 + 8200 * k) (hK : ∀ (g : Gh) (H : Heap) (locs : List Loc) (ce sl : Nat) (ls : Array Slot), LW D κ ρ g z.1 κ' ρ' z.2 s H locs → ce ≤ 63 + 243 * (k + 1) ∧ sl ≤ 684524 + 8200 * (k + 1) → lv_has ls 4 [(0, .ref b), (1, .ref (ρ 699)), (2, .ref (ρ' 40)), (3, .int (nI (6 * k)))] → W p l e room_1 s m #[Value.ref b] below meth c H locs ce sl (lw_Z below #[Value.ref b] s) (F0 m 791 ls [])) : W p l e room_1 s m #[Value.ref b] below meth c H locs ce sl (lw_Z below #[Value.ref b] s) (F0 m 551 ls []) := by
  obtain ⟨hx, hb, hml, hown, hts⟩ := id C
  unfold law_13 at h
  refine lv_aload_n hx hb dL_law_551 rfl (lv_at hl 1 rfl) ?_
  refine lv_aload_n hx hb dL_law_552 rfl (lv_at hl 0 rfl) ?_
  refine lv_iload_n hx hb dL_law_553 rfl (lv_at hl 3 rfl) ?_
  refine lv_iconst (v := (1 : Int32)) hx hb dL_law_554 (by decide) ?_
  refine lv_iadd hx hb dL_law_555 ?_
  refine lawLd (j := 1) (lawJ1 k) h6 (by decide) hL hX hbl hw.1.2.2 hx hb dL_law_556 ?_
  obtain ⟨q, e_q, h⟩ := bnd_of h
  refine lawC (va_runV (As := [.int (xs (6 * k + 1))]) C (cC_keen e_q) (cwV 1 hts gL_law_X6_keen rfl rfl rfl (by decide +kernel) ⟨Nat.le_of_ble_eq_true rfl, Nat.le_of_ble_eq_true rfl⟩) (preM (recv_699 hw.1.1) hw.1) rfl rfl hl.1 rfl (lv_room (Nat.le_of_ble_eq_true rfl)) dL_law_557 ⟨by show _ ≤ 600000; omega, by show _ ≤ 7302250; omega⟩) hw (fun g H locs hw => ?_)
  obtain ⟨ce, ec⟩ : ∃ x, x = ce + 243 := ⟨_, rfl⟩
  obtain ⟨sl, es⟩ : ∃ x, x = sl + 1215 := ⟨_, rfl⟩
  rw [← ec, ← es]
  refine lv_aload_n hx hb dL_law_560 rfl (lv_at hl 2 rfl) ?_
  refine lv_aload_n hx hb dL_law_561 rfl (lv_at hl 0 rfl) ?_
  refine lv_iload_n hx hb dL_law_562 rfl (lv_at hl 3 rfl) ?_
  refine lv_iconst (v := (1 : Int32)) hx hb dL_law_563 (by decide) ?_
  refine lv_iadd hx hb dL_law_564 ?_
  refine lawLd (j := 1) (lawJ1 k) h6 (by decide) hL hX hbl hw.1.2.2 hx hb dL_law_565 ?_
  obtain ⟨r, e_r, h⟩ := bnd_of h
  refine lawM (va_runV (As := [.int (xs (6 * k + 1))]) C (cM_keen e_r) (cwV 1 hts gL_law_X7_keen rfl rfl rfl (by decide +kernel) ⟨Nat.le_of_ble_eq_true rfl, Nat.le_of_ble_eq_true rfl⟩) (mPreM hw.2.2.2.1 hw.2.1 hw.2.2.1 _) rfl rfl hl.1 rfl (lv_room (Nat.le_of_ble_eq_true rfl)) dL_law_566 ⟨by show _ ≤ 600000; omega, by show _ ≤ 7302250; omega⟩) hw (fun H locs hw => ?_)
  refine lv_icmp_eq (tgt := 791) hx hb dL_law_569 (by decide) (fun cc => ?_) (fun cc => ?_)
  · have h := zz_pos cc h
    have h := some_of h
    subst h
    exact hK _ _ _ _ _ _ hw (by omega) hl
  · have h := zz_neg cc h
    cases h
set_option maxRecDepth 100000 in
set_option maxHeartbeats 4000000 in
theorem lw_case_14 {p : Program} {l : Launch} {e : Env} {s : State} {m : MethodId} {below : List Frame} {meth : Method} {c : Code} {b L N k ce sl : Nat} {xs : Nat → Int32} {D : va_G} {κ κ' : Nat → ClassId} {ρ ρ' : Nat → Nat} {g : Gh} {σ : CSt} {τ : MSt} {H : Heap} {locs : List Loc} {ls : Array Slot} (C : CallFix p m c cL_law 4 s #[Value.ref b] wsL_law RL) (hX : va_X b L xs s s.heap) (hbl : b < s.heap.size) (hL : L ≤ 3072) (h6 : 6 * k + 6 ≤ L) {z : CSt × MSt} (h : law_14 N (xs (6 * k + 1)) (xs (6 * k + 2)) (xs (6 * k + 3)) (xs (6 * k + 4)) (xs (6 * k + 5)) σ τ = some z) (hw : LW D κ ρ g σ κ' ρ' τ s H locs) (hl : lv_has ls 4 [(0, .ref b), (1, .ref (ρ 699)), (2, .ref (ρ' 40)), (3, .int (nI (6 * k)))]) (hc : ce ≤ 63 + 243 * k ∧ sl ≤ 684524 + 8200 * k) (hK : ∀ (g : Gh) (H : Heap) (locs : List Loc) (ce sl : Nat) (ls : Array Slot), LW D κ ρ g z.1 κ' ρ' z.2 s H locs → ce ≤ 63 + 243 * (k + 1) ∧ sl ≤ 684524 + 8200 * (k + 1) → lv_has ls 4 [(0, .ref b), (1, .ref (ρ 699)), (2, .ref (ρ' 40)), (3, .int (nI (6 * k)))] → W p l e room_1 s m #[Value.ref b] below meth c H locs ce sl (lw_Z below #[Value.ref b] s) (F0 m 791 ls [])) : W p l e room_1 s m #[Value.ref b] below meth c H locs ce sl (lw_Z below #[Value.ref b] s) (F0 m 574 ls []) := by
  obtain ⟨hx, hb, hml, hown, hts⟩ := id C
  unfold law_14 at h
  refine lv_aload_n hx hb dL_law_574 rfl (lv_at hl 1 rfl) ?_
  refine lv_aload_n hx hb dL_law_575 rfl (lv_at hl 0 rfl) ?_
  refine lv_iload_n hx hb dL_law_576 rfl (lv_at hl 3 rfl) ?_
  refine lv_iconst (v := (1 : Int32)) hx hb dL_law_577 (by decide) ?_
  refine lv_iadd hx hb dL_law_578 ?_
  refine lawLd (j := 1) (lawJ1 k) h6 (by decide) hL hX hbl hw.1.2.2 hx hb dL_law_579 ?_
  refine lv_aload_n hx hb dL_law_580 rfl (lv_at hl 0 rfl) ?_
  refine lv_iload_n hx hb dL_law_581 rfl (lv_at hl 3 rfl) ?_
  refine lv_iconst (v := (2 : Int32)) hx hb dL_law_582 (by decide) ?_
  refine lv_iadd hx hb dL_law_583 ?_
  refine lawLd (j := 2) (lawJ2 k) h6 (by decide) hL hX hbl hw.1.2.2 hx hb dL_law_584 ?_
  refine lv_aload_n hx hb dL_law_585 rfl (lv_at hl 0 rfl) ?_
  refine lv_iload_n hx hb dL_law_586 rfl (lv_at hl 3 rfl) ?_
  refine lv_iconst (v := (3 : Int32)) hx hb dL_law_587 (by decide) ?_
  refine lv_iadd hx hb dL_law_588 ?_
  refine lawLd (j := 3) (lawJ3 k) h6 (by decide) hL hX hbl hw.1.2.2 hx hb dL_law_589 ?_
  obtain ⟨q, e_q, h⟩ := bnd_of h
  refine lawC (va_runV (As := [.int (xs (6 * k + 1)), .int (xs (6 * k + 2)), .int (xs (6 * k + 3))]) C (cC_near e_q) (cwV 3 hts gL_law_X6_near rfl rfl rfl (by decide +kernel) ⟨Nat.le_of_ble_eq_true rfl, Nat.le_of_ble_eq_true rfl⟩) (preM (recv_699 hw.1.1) hw.1) rfl rfl hl.1 rfl (lv_room (Nat.le_of_ble_eq_true rfl)) dL_law_590 ⟨by show _ ≤ 600000; omega, by show _ ≤ 7302250; omega⟩) hw (fun g H locs hw => ?_)
  obtain ⟨ce, ec⟩ : ∃ x, x = ce + 243 := ⟨_, rfl⟩
  obtain ⟨sl, es⟩ : ∃ x, x = sl + 1215 := ⟨_, rfl⟩
  rw [← ec, ← es]
  refine lv_aload_n hx hb dL_law_593 rfl (lv_at hl 2 rfl) ?_
  refine lv_aload_n hx hb dL_law_594 rfl (lv_at hl 0 rfl) ?_
  refine lv_iload_n hx hb dL_law_595 rfl (lv_at hl 3 rfl) ?_
  refine lv_iconst (v := (1 : Int32)) hx hb dL_law_596 (by decide) ?_
  refine lv_iadd hx hb dL_law_597 ?_
  refine lawLd (j := 1) (lawJ1 k) h6 (by decide) hL hX hbl hw.1.2.2 hx hb dL_law_598 ?_
  refine lv_aload_n hx hb dL_law_599 rfl (lv_at hl 0 rfl) ?_
  refine lv_iload_n hx hb dL_law_600 rfl (lv_at hl 3 rfl) ?_
  refine lv_iconst (v := (2 : Int32)) hx hb dL_law_601 (by decide) ?_
  refine lv_iadd hx hb dL_law_602 ?_
  refine lawLd (j := 2) (lawJ2 k) h6 (by decide) hL hX hbl hw.1.2.2 hx hb dL_law_603 ?_
  refine lv_aload_n hx hb dL_law_604 rfl (lv_at hl 0 rfl) ?_
  refine lv_iload_n hx hb dL_law_605 rfl (lv_at hl 3 rfl) ?_
  refine lv_iconst (v := (3 : Int32)) hx hb dL_law_606 (by decide) ?_
  refine lv_iadd hx hb dL_law_607 ?_
  refine lawLd (j := 3) (lawJ3 k) h6 (by decide) hL hX hbl hw.1.2.2 hx hb dL_law_608 ?_
  obtain ⟨r, e_r, h⟩ := bnd_of h
  refine lawM (va_runV (As := [.int (xs (6 * k + 1)), .int (xs (6 * k + 2)), .int (xs (6 * k + 3))]) C (cM_near e_r) (cwV 3 hts gL_law_X7_near rfl rfl rfl (by decide +kernel) ⟨Nat.le_of_ble_eq_true rfl, Nat.le_of_ble_eq_true rfl⟩) (mPreM hw.2.2.2.1 hw.2.1 hw.2.2.1 _) rfl rfl hl.1 rfl (lv_room (Nat.le_of_ble_eq_true rfl)) dL_law_609 ⟨by show _ ≤ 600000; omega, by show _ ≤ 7302250; omega⟩) hw (fun H locs hw => ?_)
  refine lv_icmp_eq (tgt := 791) hx hb dL_law_612 (by decide) (fun cc => ?_) (fun cc => ?_)
  · have h := zz_pos cc h
    have h := some_of h
    subst h
    exact hK _ _ _ _ _ _ hw (by omega) hl
  · have h := zz_neg cc h
    cases h
set_option maxRecDepth 100000 in
set_option maxHeartbeats 4000000 in
theorem lw_case_15 {p : Program} {l : Launch} {e : Env} {s : State} {m : MethodId} {below : List Frame} {meth : Method} {c : Code} {b L N k ce sl : Nat} {xs : Nat → Int32} {D : va_G} {κ κ' : Nat → ClassId} {ρ ρ' : Nat → Nat} {g : Gh} {σ : CSt} {τ : MSt} {H : Heap} {locs : List Loc} {ls : Array Slot} (C : CallFix p m c cL_law 4 s #[Value.ref b] wsL_law RL) (hX : va_X b L xs s s.heap) (hbl : b < s.heap.size) (hL : L ≤ 3072) (h6 : 6 * k + 6 ≤ L) {z : CSt × MSt} (h : law_15 N (xs (6 * k + 1)) (xs (6 * k + 2)) (xs (6 * k + 3)) (xs (6 * k + 4)) (xs (6 * k + 5)) σ τ = some z) (hw : LW D κ ρ g σ κ' ρ' τ s H locs) (hl : lv_has ls 4 [(0, .ref b), (1, .ref (ρ 699)), (2, .ref (ρ' 40)), (3, .int (nI (6 * k)))]) (hc : ce ≤ 63 + 243 * k ∧ sl ≤ 684524 + 8200 * k) (hK : ∀ (g : Gh) (H : Heap) (locs : List Loc) (ce sl : Nat) (ls : Array Slot), LW D κ ρ g z.1 κ' ρ' z.2 s H locs → ce ≤ 63 + 243 * (k + 1) ∧ sl ≤ 684524 + 8200 * (k + 1) → lv_has ls 4 [(0, .ref b), (1, .ref (ρ 699)), (2, .ref (ρ' 40)), (3, .int (nI (6 * k)))] → W p l e room_1 s m #[Value.ref b] below meth c H locs ce sl (lw_Z below #[Value.ref b] s) (F0 m 791 ls [])) : W p l e room_1 s m #[Value.ref b] below meth c H locs ce sl (lw_Z below #[Value.ref b] s) (F0 m 617 ls []) := by
  obtain ⟨hx, hb, hml, hown, hts⟩ := id C
  unfold law_15 at h
  refine lv_aload_n hx hb dL_law_617 rfl (lv_at hl 1 rfl) ?_
  refine lv_aload_n hx hb dL_law_618 rfl (lv_at hl 0 rfl) ?_
  refine lv_iload_n hx hb dL_law_619 rfl (lv_at hl 3 rfl) ?_
  refine lv_iconst (v := (1 : Int32)) hx hb dL_law_620 (by decide) ?_
  refine lv_iadd hx hb dL_law_621 ?_
  refine lawLd (j := 1) (lawJ1 k) h6 (by decide) hL hX hbl hw.1.2.2 hx hb dL_law_622 ?_
  obtain ⟨q, e_q, h⟩ := bnd_of h
  refine lawC (va_runV (As := [.int (xs (6 * k + 1))]) C (cC_worst e_q) (cwV 1 hts gL_law_X6_worst rfl rfl rfl (by decide +kernel) ⟨Nat.le_of_ble_eq_true rfl, Nat.le_of_ble_eq_true rfl⟩) (preM (recv_699 hw.1.1) hw.1) rfl rfl hl.1 rfl (lv_room (Nat.le_of_ble_eq_true rfl)) dL_law_623 ⟨by show _ ≤ 600000; omega, by show _ ≤ 7302250; omega⟩) hw (fun g H locs hw => ?_)
  obtain ⟨ce, ec⟩ : ∃ x, x = ce + 243 := ⟨_, rfl⟩
  obtain ⟨sl, es⟩ : ∃ x, x = sl + 1215 := ⟨_, rfl⟩
  rw [← ec, ← es]
  refine lv_aload_n hx hb dL_law_626 rfl (lv_at hl 2 rfl) ?_
  refine lv_aload_n hx hb dL_law_627 rfl (lv_at hl 0 rfl) ?_
  refine lv_iload_n hx hb dL_law_628 rfl (lv_at hl 3 rfl) ?_
  refine lv_iconst (v := (1 : Int32)) hx hb dL_law_629 (by decide) ?_
  refine lv_iadd hx hb dL_law_630 ?_
  refine lawLd (j := 1) (lawJ1 k) h6 (by decide) hL hX hbl hw.1.2.2 hx hb dL_law_631 ?_
  obtain ⟨r, e_r, h⟩ := bnd_of h
  refine lawM (va_runV (As := [.int (xs (6 * k + 1))]) C (cM_worst e_r) (cwV 1 hts gL_law_X7_worst rfl rfl rfl (by decide +kernel) ⟨Nat.le_of_ble_eq_true rfl, Nat.le_of_ble_eq_true rfl⟩) (mPreM hw.2.2.2.1 hw.2.1 hw.2.2.1 _) rfl rfl hl.1 rfl (lv_room (Nat.le_of_ble_eq_true rfl)) dL_law_632 ⟨by show _ ≤ 600000; omega, by show _ ≤ 7302250; omega⟩) hw (fun H locs hw => ?_)
  refine lv_icmp_eq (tgt := 791) hx hb dL_law_635 (by decide) (fun cc => ?_) (fun cc => ?_)
  · have h := zz_pos cc h
    have h := some_of h
    subst h
    exact hK _ _ _ _ _ _ hw (by omega) hl
  · have h := zz_neg cc h
    cases h
set_option maxRecDepth 100000 in
set_option maxHeartbeats 4000000 in
theorem lw_case_16 {p : Program} {l : Launch} {e : Env} {s : State} {m : MethodId} {below : List Frame} {meth : Method} {c : Code} {b L N k ce sl : Nat} {xs : Nat → Int32} {D : va_G} {κ κ' : Nat → ClassId} {ρ ρ' : Nat → Nat} {g : Gh} {σ : CSt} {τ : MSt} {H : Heap} {locs : List Loc} {ls : Array Slot} (C : CallFix p m c cL_law 4 s #[Value.ref b] wsL_law RL) (hX : va_X b L xs s s.heap) (hbl : b < s.heap.size) (hL : L ≤ 3072) (h6 : 6 * k + 6 ≤ L) {z : CSt × MSt} (h : law_16 N (xs (6 * k + 1)) (xs (6 * k + 2)) (xs (6 * k + 3)) (xs (6 * k + 4)) (xs (6 * k + 5)) σ τ = some z) (hw : LW D κ ρ g σ κ' ρ' τ s H locs) (hl : lv_has ls 4 [(0, .ref b), (1, .ref (ρ 699)), (2, .ref (ρ' 40)), (3, .int (nI (6 * k)))]) (hc : ce ≤ 63 + 243 * k ∧ sl ≤ 684524 + 8200 * k) (hK : ∀ (g : Gh) (H : Heap) (locs : List Loc) (ce sl : Nat) (ls : Array Slot), LW D κ ρ g z.1 κ' ρ' z.2 s H locs → ce ≤ 63 + 243 * (k + 1) ∧ sl ≤ 684524 + 8200 * (k + 1) → lv_has ls 4 [(0, .ref b), (1, .ref (ρ 699)), (2, .ref (ρ' 40)), (3, .int (nI (6 * k)))] → W p l e room_1 s m #[Value.ref b] below meth c H locs ce sl (lw_Z below #[Value.ref b] s) (F0 m 791 ls [])) : W p l e room_1 s m #[Value.ref b] below meth c H locs ce sl (lw_Z below #[Value.ref b] s) (F0 m 640 ls []) := by
  obtain ⟨hx, hb, hml, hown, hts⟩ := id C
  unfold law_16 at h
  refine lv_aload_n hx hb dL_law_640 rfl (lv_at hl 1 rfl) ?_
  obtain ⟨q, e_q, h⟩ := bnd_of h
  refine lawC (va_runV (As := []) C (cC_blind e_q) (cwV 0 hts gL_law_X6_blind rfl rfl rfl (by decide +kernel) ⟨Nat.le_of_ble_eq_true rfl, Nat.le_of_ble_eq_true rfl⟩) (preM (recv_699 hw.1.1) hw.1) rfl rfl hl.1 rfl (lv_room (Nat.le_of_ble_eq_true rfl)) dL_law_641 ⟨by show _ ≤ 600000; omega, by show _ ≤ 7302250; omega⟩) hw (fun g H locs hw => ?_)
  obtain ⟨ce, ec⟩ : ∃ x, x = ce + 243 := ⟨_, rfl⟩
  obtain ⟨sl, es⟩ : ∃ x, x = sl + 1215 := ⟨_, rfl⟩
  rw [← ec, ← es]
  refine lv_aload_n hx hb dL_law_644 rfl (lv_at hl 2 rfl) ?_
  obtain ⟨r, e_r, h⟩ := bnd_of h
  refine lawM (va_runV (As := []) C (cM_blind e_r) (cwV 0 hts gL_law_X7_blind rfl rfl rfl (by decide +kernel) ⟨Nat.le_of_ble_eq_true rfl, Nat.le_of_ble_eq_true rfl⟩) (mPreM hw.2.2.2.1 hw.2.1 hw.2.2.1 _) rfl rfl hl.1 rfl (lv_room (Nat.le_of_ble_eq_true rfl)) dL_law_645 ⟨by show _ ≤ 600000; omega, by show _ ≤ 7302250; omega⟩) hw (fun H locs hw => ?_)
  refine lv_icmp_eq (tgt := 791) hx hb dL_law_648 (by decide) (fun cc => ?_) (fun cc => ?_)
  · have h := zz_pos cc h
    have h := some_of h
    subst h
    exact hK _ _ _ _ _ _ hw (by omega) hl
  · have h := zz_neg cc h
    cases h
set_option maxRecDepth 100000 in
set_option maxHeartbeats 4000000 in
theorem lw_case_17 {p : Program} {l : Launch} {e : Env} {s : State} {m : MethodId} {below : List Frame} {meth : Method} {c : Code} {b L N k ce sl : Nat} {xs : Nat → Int32} {D : va_G} {κ κ' : Nat → ClassId} {ρ ρ' : Nat → Nat} {g : Gh} {σ : CSt} {τ : MSt} {H : Heap} {locs : List Loc} {ls : Array Slot} (C : CallFix p m c cL_law 4 s #[Value.ref b] wsL_law RL) (hX : va_X b L xs s s.heap) (hbl : b < s.heap.size) (hL : L ≤ 3072) (h6 : 6 * k + 6 ≤ L) {z : CSt × MSt} (h : law_17 N (xs (6 * k + 1)) (xs (6 * k + 2)) (xs (6 * k + 3)) (xs (6 * k + 4)) (xs (6 * k + 5)) σ τ = some z) (hw : LW D κ ρ g σ κ' ρ' τ s H locs) (hl : lv_has ls 4 [(0, .ref b), (1, .ref (ρ 699)), (2, .ref (ρ' 40)), (3, .int (nI (6 * k)))]) (hc : ce ≤ 63 + 243 * k ∧ sl ≤ 684524 + 8200 * k) (hK : ∀ (g : Gh) (H : Heap) (locs : List Loc) (ce sl : Nat) (ls : Array Slot), LW D κ ρ g z.1 κ' ρ' z.2 s H locs → ce ≤ 63 + 243 * (k + 1) ∧ sl ≤ 684524 + 8200 * (k + 1) → lv_has ls 4 [(0, .ref b), (1, .ref (ρ 699)), (2, .ref (ρ' 40)), (3, .int (nI (6 * k)))] → W p l e room_1 s m #[Value.ref b] below meth c H locs ce sl (lw_Z below #[Value.ref b] s) (F0 m 791 ls [])) : W p l e room_1 s m #[Value.ref b] below meth c H locs ce sl (lw_Z below #[Value.ref b] s) (F0 m 653 ls []) := by
  obtain ⟨hx, hb, hml, hown, hts⟩ := id C
  unfold law_17 at h
  refine lv_aload_n hx hb dL_law_653 rfl (lv_at hl 1 rfl) ?_
  refine lv_aload_n hx hb dL_law_654 rfl (lv_at hl 0 rfl) ?_
  refine lv_iload_n hx hb dL_law_655 rfl (lv_at hl 3 rfl) ?_
  refine lv_iconst (v := (1 : Int32)) hx hb dL_law_656 (by decide) ?_
  refine lv_iadd hx hb dL_law_657 ?_
  refine lawLd (j := 1) (lawJ1 k) h6 (by decide) hL hX hbl hw.1.2.2 hx hb dL_law_658 ?_
  obtain ⟨q, e_q, h⟩ := bnd_of h
  refine lawC (va_runV (As := [.int (xs (6 * k + 1))]) C (cC_cover e_q) (cwV 1 hts gL_law_X6_cover rfl rfl rfl (by decide +kernel) ⟨Nat.le_of_ble_eq_true rfl, Nat.le_of_ble_eq_true rfl⟩) (preM (recv_699 hw.1.1) hw.1) rfl rfl hl.1 rfl (lv_room (Nat.le_of_ble_eq_true rfl)) dL_law_659 ⟨by show _ ≤ 600000; omega, by show _ ≤ 7302250; omega⟩) hw (fun g H locs hw => ?_)
  obtain ⟨ce, ec⟩ : ∃ x, x = ce + 243 := ⟨_, rfl⟩
  obtain ⟨sl, es⟩ : ∃ x, x = sl + 1215 := ⟨_, rfl⟩
  rw [← ec, ← es]
  refine lv_aload_n hx hb dL_law_662 rfl (lv_at hl 2 rfl) ?_
  refine lv_aload_n hx hb dL_law_663 rfl (lv_at hl 0 rfl) ?_
  refine lv_iload_n hx hb dL_law_664 rfl (lv_at hl 3 rfl) ?_
  refine lv_iconst (v := (1 : Int32)) hx hb dL_law_665 (by decide) ?_
  refine lv_iadd hx hb dL_law_666 ?_
  refine lawLd (j := 1) (lawJ1 k) h6 (by decide) hL hX hbl hw.1.2.2 hx hb dL_law_667 ?_
  obtain ⟨r, e_r, h⟩ := bnd_of h
  refine lawM (va_runV (As := [.int (xs (6 * k + 1))]) C (cM_cover e_r) (cwV 1 hts gL_law_X7_cover rfl rfl rfl (by decide +kernel) ⟨Nat.le_of_ble_eq_true rfl, Nat.le_of_ble_eq_true rfl⟩) (mPreM hw.2.2.2.1 hw.2.1 hw.2.2.1 _) rfl rfl hl.1 rfl (lv_room (Nat.le_of_ble_eq_true rfl)) dL_law_668 ⟨by show _ ≤ 600000; omega, by show _ ≤ 7302250; omega⟩) hw (fun H locs hw => ?_)
  refine lv_icmp_eq (tgt := 791) hx hb dL_law_671 (by decide) (fun cc => ?_) (fun cc => ?_)
  · have h := zz_pos cc h
    have h := some_of h
    subst h
    exact hK _ _ _ _ _ _ hw (by omega) hl
  · have h := zz_neg cc h
    cases h
set_option maxRecDepth 100000 in
set_option maxHeartbeats 4000000 in
theorem lw_case_18 {p : Program} {l : Launch} {e : Env} {s : State} {m : MethodId} {below : List Frame} {meth : Method} {c : Code} {b L N k ce sl : Nat} {xs : Nat → Int32} {D : va_G} {κ κ' : Nat → ClassId} {ρ ρ' : Nat → Nat} {g : Gh} {σ : CSt} {τ : MSt} {H : Heap} {locs : List Loc} {ls : Array Slot} (C : CallFix p m c cL_law 4 s #[Value.ref b] wsL_law RL) (hX : va_X b L xs s s.heap) (hbl : b < s.heap.size) (hL : L ≤ 3072) (h6 : 6 * k + 6 ≤ L) {z : CSt × MSt} (h : law_18 N (xs (6 * k + 1)) (xs (6 * k + 2)) (xs (6 * k + 3)) (xs (6 * k + 4)) (xs (6 * k + 5)) σ τ = some z) (hw : LW D κ ρ g σ κ' ρ' τ s H locs) (hl : lv_has ls 4 [(0, .ref b), (1, .ref (ρ 699)), (2, .ref (ρ' 40)), (3, .int (nI (6 * k)))]) (hc : ce ≤ 63 + 243 * k ∧ sl ≤ 684524 + 8200 * k) (hK : ∀ (g : Gh) (H : Heap) (locs : List Loc) (ce sl : Nat) (ls : Array Slot), LW D κ ρ g z.1 κ' ρ' z.2 s H locs → ce ≤ 63 + 243 * (k + 1) ∧ sl ≤ 684524 + 8200 * (k + 1) → lv_has ls 4 [(0, .ref b), (1, .ref (ρ 699)), (2, .ref (ρ' 40)), (3, .int (nI (6 * k)))] → W p l e room_1 s m #[Value.ref b] below meth c H locs ce sl (lw_Z below #[Value.ref b] s) (F0 m 791 ls [])) : W p l e room_1 s m #[Value.ref b] below meth c H locs ce sl (lw_Z below #[Value.ref b] s) (F0 m 676 ls []) := by
  obtain ⟨hx, hb, hml, hown, hts⟩ := id C
  unfold law_18 at h
  refine lv_aload_n hx hb dL_law_676 rfl (lv_at hl 1 rfl) ?_
  refine lv_aload_n hx hb dL_law_677 rfl (lv_at hl 0 rfl) ?_
  refine lv_iload_n hx hb dL_law_678 rfl (lv_at hl 3 rfl) ?_
  refine lv_iconst (v := (1 : Int32)) hx hb dL_law_679 (by decide) ?_
  refine lv_iadd hx hb dL_law_680 ?_
  refine lawLd (j := 1) (lawJ1 k) h6 (by decide) hL hX hbl hw.1.2.2 hx hb dL_law_681 ?_
  obtain ⟨q, e_q, h⟩ := bnd_of h
  refine lawC (va_runV (As := [.int (xs (6 * k + 1))]) C (cC_run e_q) (cwV 1 hts gL_law_X6_run rfl rfl rfl (by decide +kernel) ⟨Nat.le_of_ble_eq_true rfl, Nat.le_of_ble_eq_true rfl⟩) (preM (recv_699 hw.1.1) hw.1) rfl rfl hl.1 rfl (lv_room (Nat.le_of_ble_eq_true rfl)) dL_law_682 ⟨by show _ ≤ 600000; omega, by show _ ≤ 7302250; omega⟩) hw (fun g H locs hw => ?_)
  obtain ⟨ce, ec⟩ : ∃ x, x = ce + 2 := ⟨_, rfl⟩
  obtain ⟨sl, es⟩ : ∃ x, x = sl + 8200 := ⟨_, rfl⟩
  rw [← ec, ← es]
  refine lv_aload_n hx hb dL_law_685 rfl (lv_at hl 2 rfl) ?_
  refine lv_aload_n hx hb dL_law_686 rfl (lv_at hl 0 rfl) ?_
  refine lv_iload_n hx hb dL_law_687 rfl (lv_at hl 3 rfl) ?_
  refine lv_iconst (v := (1 : Int32)) hx hb dL_law_688 (by decide) ?_
  refine lv_iadd hx hb dL_law_689 ?_
  refine lawLd (j := 1) (lawJ1 k) h6 (by decide) hL hX hbl hw.1.2.2 hx hb dL_law_690 ?_
  obtain ⟨r, e_r, h⟩ := bnd_of h
  refine lawM (va_runV (As := [.int (xs (6 * k + 1))]) C (cM_run e_r) (cwV 1 hts gL_law_X7_run rfl rfl rfl (by decide +kernel) ⟨Nat.le_of_ble_eq_true rfl, Nat.le_of_ble_eq_true rfl⟩) (mPreM hw.2.2.2.1 hw.2.1 hw.2.2.1 _) rfl rfl hl.1 rfl (lv_room (Nat.le_of_ble_eq_true rfl)) dL_law_691 ⟨by show _ ≤ 600000; omega, by show _ ≤ 7302250; omega⟩) hw (fun H locs hw => ?_)
  refine lv_icmp_eq (tgt := 791) hx hb dL_law_694 (by decide) (fun cc => ?_) (fun cc => ?_)
  · have h := zz_pos cc h
    have h := some_of h
    subst h
    exact hK _ _ _ _ _ _ hw (by omega) hl
  · have h := zz_neg cc h
    cases h
set_option maxRecDepth 100000 in
set_option maxHeartbeats 4000000 in
theorem lw_case_19 {p : Program} {l : Launch} {e : Env} {s : State} {m : MethodId} {below : List Frame} {meth : Method} {c : Code} {b L N k ce sl : Nat} {xs : Nat → Int32} {D : va_G} {κ κ' : Nat → ClassId} {ρ ρ' : Nat → Nat} {g : Gh} {σ : CSt} {τ : MSt} {H : Heap} {locs : List Loc} {ls : Array Slot} (C : CallFix p m c cL_law 4 s #[Value.ref b] wsL_law RL) (hX : va_X b L xs s s.heap) (hbl : b < s.heap.size) (hL : L ≤ 3072) (h6 : 6 * k + 6 ≤ L) {z : CSt × MSt} (h : law_19 N (xs (6 * k + 1)) (xs (6 * k + 2)) (xs (6 * k + 3)) (xs (6 * k + 4)) (xs (6 * k + 5)) σ τ = some z) (hw : LW D κ ρ g σ κ' ρ' τ s H locs) (hl : lv_has ls 4 [(0, .ref b), (1, .ref (ρ 699)), (2, .ref (ρ' 40)), (3, .int (nI (6 * k)))]) (hc : ce ≤ 63 + 243 * k ∧ sl ≤ 684524 + 8200 * k) (hK : ∀ (g : Gh) (H : Heap) (locs : List Loc) (ce sl : Nat) (ls : Array Slot), LW D κ ρ g z.1 κ' ρ' z.2 s H locs → ce ≤ 63 + 243 * (k + 1) ∧ sl ≤ 684524 + 8200 * (k + 1) → lv_has ls 4 [(0, .ref b), (1, .ref (ρ 699)), (2, .ref (ρ' 40)), (3, .int (nI (6 * k)))] → W p l e room_1 s m #[Value.ref b] below meth c H locs ce sl (lw_Z below #[Value.ref b] s) (F0 m 791 ls [])) : W p l e room_1 s m #[Value.ref b] below meth c H locs ce sl (lw_Z below #[Value.ref b] s) (F0 m 699 ls []) := by
  obtain ⟨hx, hb, hml, hown, hts⟩ := id C
  unfold law_19 at h
  refine lv_aload_n hx hb dL_law_699 rfl (lv_at hl 1 rfl) ?_
  obtain ⟨q, e_q, h⟩ := bnd_of h
  refine callP (W.runV (As := []) C (cC_steps e_q) (cwV 0 hts gL_law_X6_steps rfl rfl rfl (by decide +kernel) ⟨Nat.le_of_ble_eq_true rfl, Nat.le_of_ble_eq_true rfl⟩) (preR (recv_699 hw.1.1) hw.1.1) rfl rfl hl.1 rfl (lv_room (Nat.le_of_ble_eq_true rfl)) dL_law_700 ⟨by show _ ≤ 600000; omega, by show _ ≤ 7302250; omega⟩) ?_
  refine lv_aload_n hx hb dL_law_703 rfl (lv_at hl 2 rfl) ?_
  obtain ⟨r, e_r, h⟩ := bnd_of h
  refine callP (W.runV (As := []) C (cM_steps e_r) (cwV 0 hts gL_law_X7_steps rfl rfl rfl (by decide +kernel) ⟨Nat.le_of_ble_eq_true rfl, Nat.le_of_ble_eq_true rfl⟩) (mPreR hw.2.2.2.1 hw.2.1 _) rfl rfl hl.1 rfl (lv_room (Nat.le_of_ble_eq_true rfl)) dL_law_704 ⟨by show _ ≤ 600000; omega, by show _ ≤ 7302250; omega⟩) ?_
  refine lv_icmp_eq (tgt := 791) hx hb dL_law_707 (by decide) (fun cc => ?_) (fun cc => ?_)
  · have h := zz_pos cc h
    have h := some_of h
    subst h
    exact hK _ _ _ _ _ _ hw (by omega) hl
  · have h := zz_neg cc h
    cases h
set_option maxRecDepth 100000 in
set_option maxHeartbeats 4000000 in
theorem lw_case_20 {p : Program} {l : Launch} {e : Env} {s : State} {m : MethodId} {below : List Frame} {meth : Method} {c : Code} {b L N k ce sl : Nat} {xs : Nat → Int32} {D : va_G} {κ κ' : Nat → ClassId} {ρ ρ' : Nat → Nat} {g : Gh} {σ : CSt} {τ : MSt} {H : Heap} {locs : List Loc} {ls : Array Slot} (C : CallFix p m c cL_law 4 s #[Value.ref b] wsL_law RL) (hX : va_X b L xs s s.heap) (hbl : b < s.heap.size) (hL : L ≤ 3072) (h6 : 6 * k + 6 ≤ L) {z : CSt × MSt} (h : law_20 N (xs (6 * k + 1)) (xs (6 * k + 2)) (xs (6 * k + 3)) (xs (6 * k + 4)) (xs (6 * k + 5)) σ τ = some z) (hw : LW D κ ρ g σ κ' ρ' τ s H locs) (hl : lv_has ls 4 [(0, .ref b), (1, .ref (ρ 699)), (2, .ref (ρ' 40)), (3, .int (nI (6 * k)))]) (hc : ce ≤ 63 + 243 * k ∧ sl ≤ 684524 + 8200 * k) (hK : ∀ (g : Gh) (H : Heap) (locs : List Loc) (ce sl : Nat) (ls : Array Slot), LW D κ ρ g z.1 κ' ρ' z.2 s H locs → ce ≤ 63 + 243 * (k + 1) ∧ sl ≤ 684524 + 8200 * (k + 1) → lv_has ls 4 [(0, .ref b), (1, .ref (ρ 699)), (2, .ref (ρ' 40)), (3, .int (nI (6 * k)))] → W p l e room_1 s m #[Value.ref b] below meth c H locs ce sl (lw_Z below #[Value.ref b] s) (F0 m 791 ls [])) : W p l e room_1 s m #[Value.ref b] below meth c H locs ce sl (lw_Z below #[Value.ref b] s) (F0 m 712 ls []) := by
  obtain ⟨hx, hb, hml, hown, hts⟩ := id C
  unfold law_20 at h
  refine lv_aload_n hx hb dL_law_712 rfl (lv_at hl 1 rfl) ?_
  refine lv_aload_n hx hb dL_law_713 rfl (lv_at hl 0 rfl) ?_
  refine lv_iload_n hx hb dL_law_714 rfl (lv_at hl 3 rfl) ?_
  refine lv_iconst (v := (1 : Int32)) hx hb dL_law_715 (by decide) ?_
  refine lv_iadd hx hb dL_law_716 ?_
  refine lawLd (j := 1) (lawJ1 k) h6 (by decide) hL hX hbl hw.1.2.2 hx hb dL_law_717 ?_
  refine lv_aload_n hx hb dL_law_718 rfl (lv_at hl 0 rfl) ?_
  refine lv_iload_n hx hb dL_law_719 rfl (lv_at hl 3 rfl) ?_
  refine lv_iconst (v := (2 : Int32)) hx hb dL_law_720 (by decide) ?_
  refine lv_iadd hx hb dL_law_721 ?_
  refine lawLd (j := 2) (lawJ2 k) h6 (by decide) hL hX hbl hw.1.2.2 hx hb dL_law_722 ?_
  obtain ⟨q, e_q, h⟩ := bnd_of h
  refine callP (W.runV (As := [.int (xs (6 * k + 1)), .int (xs (6 * k + 2))]) C (cC_out e_q) (cwV 2 hts gL_law_X6_out rfl rfl rfl (by decide +kernel) ⟨Nat.le_of_ble_eq_true rfl, Nat.le_of_ble_eq_true rfl⟩) (preR (recv_699 hw.1.1) hw.1.1) rfl rfl hl.1 rfl (lv_room (Nat.le_of_ble_eq_true rfl)) dL_law_723 ⟨by show _ ≤ 600000; omega, by show _ ≤ 7302250; omega⟩) ?_
  refine lv_aload_n hx hb dL_law_726 rfl (lv_at hl 2 rfl) ?_
  refine lv_aload_n hx hb dL_law_727 rfl (lv_at hl 0 rfl) ?_
  refine lv_iload_n hx hb dL_law_728 rfl (lv_at hl 3 rfl) ?_
  refine lv_iconst (v := (1 : Int32)) hx hb dL_law_729 (by decide) ?_
  refine lv_iadd hx hb dL_law_730 ?_
  refine lawLd (j := 1) (lawJ1 k) h6 (by decide) hL hX hbl hw.1.2.2 hx hb dL_law_731 ?_
  refine lv_aload_n hx hb dL_law_732 rfl (lv_at hl 0 rfl) ?_
  refine lv_iload_n hx hb dL_law_733 rfl (lv_at hl 3 rfl) ?_
  refine lv_iconst (v := (2 : Int32)) hx hb dL_law_734 (by decide) ?_
  refine lv_iadd hx hb dL_law_735 ?_
  refine lawLd (j := 2) (lawJ2 k) h6 (by decide) hL hX hbl hw.1.2.2 hx hb dL_law_736 ?_
  obtain ⟨r, e_r, h⟩ := bnd_of h
  refine callP (W.runV (As := [.int (xs (6 * k + 1)), .int (xs (6 * k + 2))]) C (cM_out e_r) (cwV 2 hts gL_law_X7_out rfl rfl rfl (by decide +kernel) ⟨Nat.le_of_ble_eq_true rfl, Nat.le_of_ble_eq_true rfl⟩) (mPreR hw.2.2.2.1 hw.2.1 _) rfl rfl hl.1 rfl (lv_room (Nat.le_of_ble_eq_true rfl)) dL_law_737 ⟨by show _ ≤ 600000; omega, by show _ ≤ 7302250; omega⟩) ?_
  refine lv_icmp_eq (tgt := 791) hx hb dL_law_740 (by decide) (fun cc => ?_) (fun cc => ?_)
  · have h := zz_pos cc h
    have h := some_of h
    subst h
    exact hK _ _ _ _ _ _ hw (by omega) hl
  · have h := zz_neg cc h
    cases h
set_option maxRecDepth 100000 in
set_option maxHeartbeats 4000000 in
theorem lw_case_21 {p : Program} {l : Launch} {e : Env} {s : State} {m : MethodId} {below : List Frame} {meth : Method} {c : Code} {b L N k ce sl : Nat} {xs : Nat → Int32} {D : va_G} {κ κ' : Nat → ClassId} {ρ ρ' : Nat → Nat} {g : Gh} {σ : CSt} {τ : MSt} {H : Heap} {locs : List Loc} {ls : Array Slot} (C : CallFix p m c cL_law 4 s #[Value.ref b] wsL_law RL) (hX : va_X b L xs s s.heap) (hbl : b < s.heap.size) (hL : L ≤ 3072) (h6 : 6 * k + 6 ≤ L) {z : CSt × MSt} (h : law_21 N (xs (6 * k + 1)) (xs (6 * k + 2)) (xs (6 * k + 3)) (xs (6 * k + 4)) (xs (6 * k + 5)) σ τ = some z) (hw : LW D κ ρ g σ κ' ρ' τ s H locs) (hl : lv_has ls 4 [(0, .ref b), (1, .ref (ρ 699)), (2, .ref (ρ' 40)), (3, .int (nI (6 * k)))]) (hc : ce ≤ 63 + 243 * k ∧ sl ≤ 684524 + 8200 * k) (hK : ∀ (g : Gh) (H : Heap) (locs : List Loc) (ce sl : Nat) (ls : Array Slot), LW D κ ρ g z.1 κ' ρ' z.2 s H locs → ce ≤ 63 + 243 * (k + 1) ∧ sl ≤ 684524 + 8200 * (k + 1) → lv_has ls 4 [(0, .ref b), (1, .ref (ρ 699)), (2, .ref (ρ' 40)), (3, .int (nI (6 * k)))] → W p l e room_1 s m #[Value.ref b] below meth c H locs ce sl (lw_Z below #[Value.ref b] s) (F0 m 791 ls [])) : W p l e room_1 s m #[Value.ref b] below meth c H locs ce sl (lw_Z below #[Value.ref b] s) (F0 m 745 ls []) := by
  obtain ⟨hx, hb, hml, hown, hts⟩ := id C
  unfold law_21 at h
  refine lv_aload_n hx hb dL_law_745 rfl (lv_at hl 1 rfl) ?_
  refine lv_aload_n hx hb dL_law_746 rfl (lv_at hl 0 rfl) ?_
  refine lv_iload_n hx hb dL_law_747 rfl (lv_at hl 3 rfl) ?_
  refine lv_iconst (v := (1 : Int32)) hx hb dL_law_748 (by decide) ?_
  refine lv_iadd hx hb dL_law_749 ?_
  refine lawLd (j := 1) (lawJ1 k) h6 (by decide) hL hX hbl hw.1.2.2 hx hb dL_law_750 ?_
  obtain ⟨q, e_q, h⟩ := bnd_of h
  refine callP (W.runV (As := [.int (xs (6 * k + 1))]) C (cC_holds e_q) (cwV 1 hts gL_law_X6_holds rfl rfl rfl (by decide +kernel) ⟨Nat.le_of_ble_eq_true rfl, Nat.le_of_ble_eq_true rfl⟩) (preR (recv_699 hw.1.1) hw.1.1) rfl rfl hl.1 rfl (lv_room (Nat.le_of_ble_eq_true rfl)) dL_law_751 ⟨by show _ ≤ 600000; omega, by show _ ≤ 7302250; omega⟩) ?_
  refine lv_aload_n hx hb dL_law_754 rfl (lv_at hl 2 rfl) ?_
  refine lv_aload_n hx hb dL_law_755 rfl (lv_at hl 0 rfl) ?_
  refine lv_iload_n hx hb dL_law_756 rfl (lv_at hl 3 rfl) ?_
  refine lv_iconst (v := (1 : Int32)) hx hb dL_law_757 (by decide) ?_
  refine lv_iadd hx hb dL_law_758 ?_
  refine lawLd (j := 1) (lawJ1 k) h6 (by decide) hL hX hbl hw.1.2.2 hx hb dL_law_759 ?_
  obtain ⟨r, e_r, h⟩ := bnd_of h
  refine callP (W.runV (As := [.int (xs (6 * k + 1))]) C (cM_holds e_r) (cwV 1 hts gL_law_X7_holds rfl rfl rfl (by decide +kernel) ⟨Nat.le_of_ble_eq_true rfl, Nat.le_of_ble_eq_true rfl⟩) (mPreR hw.2.2.2.1 hw.2.1 _) rfl rfl hl.1 rfl (lv_room (Nat.le_of_ble_eq_true rfl)) dL_law_760 ⟨by show _ ≤ 600000; omega, by show _ ≤ 7302250; omega⟩) ?_
  refine lv_icmp_eq (tgt := 791) hx hb dL_law_763 (by decide) (fun cc => ?_) (fun cc => ?_)
  · have h := zz_pos cc h
    have h := some_of h
    subst h
    exact hK _ _ _ _ _ _ hw (by omega) hl
  · have h := zz_neg cc h
    cases h
set_option maxRecDepth 100000 in
set_option maxHeartbeats 4000000 in
theorem lw_case_22 {p : Program} {l : Launch} {e : Env} {s : State} {m : MethodId} {below : List Frame} {meth : Method} {c : Code} {b L N k ce sl : Nat} {xs : Nat → Int32} {D : va_G} {κ κ' : Nat → ClassId} {ρ ρ' : Nat → Nat} {g : Gh} {σ : CSt} {τ : MSt} {H : Heap} {locs : List Loc} {ls : Array Slot} (C : CallFix p m c cL_law 4 s #[Value.ref b] wsL_law RL) (hX : va_X b L xs s s.heap) (hbl : b < s.heap.size) (hL : L ≤ 3072) (h6 : 6 * k + 6 ≤ L) {z : CSt × MSt} (h : law_22 N (xs (6 * k + 1)) (xs (6 * k + 2)) (xs (6 * k + 3)) (xs (6 * k + 4)) (xs (6 * k + 5)) σ τ = some z) (hw : LW D κ ρ g σ κ' ρ' τ s H locs) (hl : lv_has ls 4 [(0, .ref b), (1, .ref (ρ 699)), (2, .ref (ρ' 40)), (3, .int (nI (6 * k)))]) (hc : ce ≤ 63 + 243 * k ∧ sl ≤ 684524 + 8200 * k) (hK : ∀ (g : Gh) (H : Heap) (locs : List Loc) (ce sl : Nat) (ls : Array Slot), LW D κ ρ g z.1 κ' ρ' z.2 s H locs → ce ≤ 63 + 243 * (k + 1) ∧ sl ≤ 684524 + 8200 * (k + 1) → lv_has ls 4 [(0, .ref b), (1, .ref (ρ 699)), (2, .ref (ρ' 40)), (3, .int (nI (6 * k)))] → W p l e room_1 s m #[Value.ref b] below meth c H locs ce sl (lw_Z below #[Value.ref b] s) (F0 m 791 ls [])) : W p l e room_1 s m #[Value.ref b] below meth c H locs ce sl (lw_Z below #[Value.ref b] s) (F0 m 768 ls []) := by
  obtain ⟨hx, hb, hml, hown, hts⟩ := id C
  unfold law_22 at h
  refine lv_aload_n hx hb dL_law_768 rfl (lv_at hl 1 rfl) ?_
  refine lv_aload_n hx hb dL_law_769 rfl (lv_at hl 0 rfl) ?_
  refine lv_iload_n hx hb dL_law_770 rfl (lv_at hl 3 rfl) ?_
  refine lv_iconst (v := (1 : Int32)) hx hb dL_law_771 (by decide) ?_
  refine lv_iadd hx hb dL_law_772 ?_
  refine lawLd (j := 1) (lawJ1 k) h6 (by decide) hL hX hbl hw.1.2.2 hx hb dL_law_773 ?_
  obtain ⟨q, e_q, h⟩ := bnd_of h
  refine lawC (va_runV (As := [.int (xs (6 * k + 1))]) C (cC_count e_q) (cwV 1 hts gL_law_X6_count rfl rfl rfl (by decide +kernel) ⟨Nat.le_of_ble_eq_true rfl, Nat.le_of_ble_eq_true rfl⟩) (preM (recv_699 hw.1.1) hw.1) rfl rfl hl.1 rfl (lv_room (Nat.le_of_ble_eq_true rfl)) dL_law_774 ⟨by show _ ≤ 600000; omega, by show _ ≤ 7302250; omega⟩) hw (fun g H locs hw => ?_)
  refine lv_aload_n hx hb dL_law_777 rfl (lv_at hl 2 rfl) ?_
  refine lv_aload_n hx hb dL_law_778 rfl (lv_at hl 0 rfl) ?_
  refine lv_iload_n hx hb dL_law_779 rfl (lv_at hl 3 rfl) ?_
  refine lv_iconst (v := (1 : Int32)) hx hb dL_law_780 (by decide) ?_
  refine lv_iadd hx hb dL_law_781 ?_
  refine lawLd (j := 1) (lawJ1 k) h6 (by decide) hL hX hbl hw.1.2.2 hx hb dL_law_782 ?_
  obtain ⟨r, e_r, h⟩ := bnd_of h
  refine lawM (va_runV (As := [.int (xs (6 * k + 1))]) C (cM_count e_r) (cwV 1 hts gL_law_X7_count rfl rfl rfl (by decide +kernel) ⟨Nat.le_of_ble_eq_true rfl, Nat.le_of_ble_eq_true rfl⟩) (mPreM hw.2.2.2.1 hw.2.1 hw.2.2.1 _) rfl rfl hl.1 rfl (lv_room (Nat.le_of_ble_eq_true rfl)) dL_law_783 ⟨by show _ ≤ 600000; omega, by show _ ≤ 7302250; omega⟩) hw (fun H locs hw => ?_)
  refine lv_icmp_eq (tgt := 791) hx hb dL_law_786 (by decide) (fun cc => ?_) (fun cc => ?_)
  · have h := zz_pos cc h
    have h := some_of h
    subst h
    exact hK _ _ _ _ _ _ hw (by omega) hl
  · have h := zz_neg cc h
    cases h
