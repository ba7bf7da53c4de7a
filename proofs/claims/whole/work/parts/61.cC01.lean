/-! the class, C: near, worst, blind, cover, run, steps, out, holds, count -/
def fC_near (N : Nat) (σ : CSt) (x1 : Int32) (x2 : Int32) (x3 : Int32) : Option (Int32 × CSt) := (fC_planAt N σ x1).bind fun r_2 => on r_2 (some ((-1 : Int32), σ)) (fun x_9 => (fC_isPoint N x2).bind fun r_13 => (if r_13 = 0 then some ((-1 : Int32), σ) else (fC_areHundredths N x3).bind fun r_22 => (if r_22 = 0 then some ((-2 : Int32), σ) else (fQ_allTables N σ).bind fun r_40 => (if x_9.1 = r_40 then (fC_tellSpans N σ).bind fun r_47 => (if r_47.1 = 0 then some ((-3 : Int32), r_47.2) else (fS_isNear N r_47.2 (some x_9) x2 x3).bind fun r_64 => (if r_64 = 0 then some ((0 : Int32), r_47.2) else some ((1 : Int32), r_47.2))) else some ((-3 : Int32), σ)))))
set_option maxRecDepth 100000 in
set_option maxHeartbeats 4000000 in
theorem cC_near {l : Launch} {D : va_G} {κ : Nat → ClassId} {ρ : Nat → Nat} {g0 : Gh} {sz : Nat} {N : Nat} {σ : CSt} {x1 : Int32} {x2 : Int32} {x3 : Int32} {q : Int32 × CSt} (h : fC_near N σ x1 x2 x3 = some q) : Met l yX6_near wsX6_near ({ frames := 7, cells := 243, slots := 1215, locals := 180 } : Room) (va_Pc [.ref (ρ 699), .int x1, .int x2, .int x3] (PC D κ ρ sz g0 σ)) (QC D κ ρ sz g0 q.2 (some (.int q.1))) 243 1215 (AC ρ g0 sz) := by
  refine cMetM (Qc := fun z => QC D κ ρ z g0 q.2 (some (.int q.1))) (ret := (some .int)) (by decide) rfl rfl (Nat.le_of_ble_eq_true rfl) ?_
  intro p e s m below meth c ls C hr hlk hw hl
  obtain ⟨g, eg⟩ : ∃ x, x = g0 := ⟨_, rfl⟩
  have hw : WC D κ ρ (AC ρ g0 s.heap.size) s.heap g σ s s.heap [] := by rw [eg]; exact hw
  have hg : sub g0 g := by rw [eg]; exact sub_rf g0
  refine W.widen (k := 0) (n := 0) (Nat.le_refl _) (Nat.le_refl _) ?_
  obtain ⟨ce, ece⟩ : ∃ x : Nat, x = 0 := ⟨_, rfl⟩
  obtain ⟨sl, esl⟩ : ∃ x : Nat, x = 0 := ⟨_, rfl⟩
  refine W.widen (k := ce) (n := sl) (Nat.zero_le _) (Nat.zero_le _) ?_
  have hl : lv_has ls 5 [(0, .ref (ρ 699)), (1, .int x1), (2, .int x2), (3, .int x3)] := hl
  unfold fC_near at h
  have hx := C.1
  have hb := C.2.1
  have hts := C.2.2.2.2
  have hown := C.2.2.2.1
  have k_14 := hts (.fieldLink RX6 14 "PlanCabinet" "question" "LPlanCabinet$Question;") (by decide +kernel)
  have k_41 := hts (.fieldLink RX6 41 "PlanCabinet" "spans" "LPlanCabinet$Spans;") (by decide +kernel)
  have k_122 := hts (.fieldLink RX6 122 "PlanCabinet$Plan" "set" "I") (by decide +kernel)
  have in_1 : ∀ w ∈ wsX10, w ∈ wsX6_near := by decide +kernel
  have in_6 : ∀ w ∈ wsX60, w ∈ wsX6_near := by decide +kernel
  refine lv_aload_n hx hb dX6_near_0 rfl (lv_at hl 0 rfl) ?_
  refine lv_iload_n hx hb dX6_near_1 rfl (lv_at hl 1 rfl) ?_
  obtain ⟨r_2, e_2, h⟩ := bnd_of h
  refine callPq (W.runV (As := [.int x1]) C (cC_planAt e_2) (cwV 1 hts gX6_near_X6_planAt rfl rfl rfl (by decide +kernel) ⟨by decide, by decide⟩) (preR (recv_699 hw.1) hw.1) rfl rfl hl.1 rfl (lv_room (Nat.le_of_ble_eq_true rfl)) dX6_near_2 ⟨by show _ ≤ 243; omega, by show _ ≤ 1215; omega⟩) (fun z_2 hp_2 => ?_)
  refine cAstore (lv' := [(4, va_rf z_2), (0, .ref (ρ 699)), (1, .int x1), (2, .int x2), (3, .int x3)]) hx hb dX6_near_5 hl (by decide) rfl (fun ls hl => ?_)
  refine cAload hx hb dX6_near_7 (lv_at hl 0 rfl) ?_
  refine cNull (tgt := 19) hx hb hp_2 dX6_near_9 (by decide) (fun ez_9 ex_9 => ?_) (fun z_9 x_9 ez_9 ex_9 hq_9 => ?_)
  · have h := on_none ex_9 h
    subst ez_9
    have hl : lv_has ls 5 [(4, .null), (0, .ref (ρ 699)), (1, .int x1), (2, .int x2), (3, .int x3)] := hl
    refine lv_iconst (v := (-1 : Int32)) hx hb dX6_near_19 (by decide) ?_
    refine W.widen (k := 243) (n := 1215) (by omega) (by omega) ?_
    exact W.iret hx hb hr (fun t ht hW => QC.of (by rw [← some_of h]) (by rw [← some_of h]; exact hw) hg ht hW) hw.2.2.2.2 dX6_near_20
  · have h := on_some ex_9 h
    subst ez_9
    have hl : lv_has ls 5 [(4, .ref z_9), (0, .ref (ρ 699)), (1, .int x1), (2, .int x2), (3, .int x3)] := hl
    refine lv_iload_n hx hb dX6_near_12 rfl (lv_at hl 3 rfl) ?_
    obtain ⟨r_13, e_13, h⟩ := bnd_of h
    refine callP (W.runS (As := [.int x2]) C (cC_isPoint e_13) (cwS 1 hts gX6_near_X6_isPoint rfl rfl rfl (by decide +kernel) ⟨by decide, by decide⟩) preT rfl rfl hl.1 rfl (lv_room (Nat.le_of_ble_eq_true rfl)) dX6_near_13 ⟨by show _ ≤ 243; omega, by show _ ≤ 1215; omega⟩) ?_
    refine lv_if_ne (tgt := 21) hx hb dX6_near_16 (by decide) (fun c_16 => ?_) (fun c_16 => ?_)
    · have h := zz_neg c_16 h
      refine lv_iload_n hx hb dX6_near_21 rfl (lv_at hl 4 rfl) ?_
      obtain ⟨r_22, e_22, h⟩ := bnd_of h
      refine callP (W.runS (As := [.int x3]) C (cC_areHundredths e_22) (cwS 1 hts gX6_near_X6_areHundredths rfl rfl rfl (by decide +kernel) ⟨by decide, by decide⟩) preT rfl rfl hl.1 rfl (lv_room (Nat.le_of_ble_eq_true rfl)) dX6_near_22 ⟨by show _ ≤ 243; omega, by show _ ≤ 1215; omega⟩) ?_
      refine lv_if_ne (tgt := 31) hx hb dX6_near_25 (by decide) (fun c_25 => ?_) (fun c_25 => ?_)
      · have h := zz_neg c_25 h
        refine lv_aload hx hb dX6_near_31 (lv_at hl 0 rfl) ?_
        refine cGP_0 C in_1 hw.1 hq_9 k_122 dX6_near_33 ?_
        refine lv_aload_n hx hb dX6_near_36 rfl (lv_at hl 1 rfl) ?_
        refine cG_600 C in_6 hw.1 k_14 dX6_near_37 ?_
        obtain ⟨r_40, e_40, h⟩ := bnd_of h
        refine callP (W.runV (As := []) C (cQ_allTables e_40) (cwV 0 hts gX6_near_X3_allTables rfl rfl rfl (by decide +kernel) ⟨by decide, by decide⟩) (preR (recv_399 hw.1) hw.1) rfl rfl hl.1 rfl (lv_room (Nat.le_of_ble_eq_true rfl)) dX6_near_40 ⟨by show _ ≤ 243; omega, by show _ ≤ 1215; omega⟩) ?_
        refine lv_icmp_ne (tgt := 53) hx hb dX6_near_43 (by decide) (fun c_43 => ?_) (fun c_43 => ?_)
        · have h := zz_neg c_43 h
          refine lv_bipush (v := (-3 : Int32)) hx hb dX6_near_53 (by decide) ?_
          refine W.widen (k := 243) (n := 1215) (by omega) (by omega) ?_
          exact W.iret hx hb hr (fun t ht hW => QC.of (by rw [← some_of h]) (by rw [← some_of h]; exact hw) hg ht hW) hw.2.2.2.2 dX6_near_55
        · have h := zz_pos c_43 h
          refine lv_aload_n hx hb dX6_near_46 rfl (lv_at hl 1 rfl) ?_
          obtain ⟨r_47, e_47, h⟩ := bnd_of h
          refine callC (va_runV (As := []) C (cC_tellSpans e_47) (cwV 0 hts gX6_near_X6_tellSpans rfl rfl rfl (by decide +kernel) ⟨by decide, by decide⟩) (preM (recv_699 hw.1) hw) rfl rfl hl.1 rfl (lv_room (Nat.le_of_ble_eq_true rfl)) dX6_near_47 ⟨by show _ ≤ 243; omega, by show _ ≤ 1215; omega⟩) hw (fun _ h => Or.inr h) (fun g H locs hs hw => ?_)
          have hg := sub_tr hg hs
          have hq_9 := hs _ hq_9
          obtain ⟨ce, ec_47⟩ : ∃ x, x = ce + 243 := ⟨_, rfl⟩
          obtain ⟨sl, es_47⟩ : ∃ x, x = sl + 1215 := ⟨_, rfl⟩
          rw [← ec_47, ← es_47]
          refine lv_if_ne (tgt := 56) hx hb dX6_near_50 (by decide) (fun c_50 => ?_) (fun c_50 => ?_)
          · have h := zz_neg c_50 h
            refine lv_aload_n hx hb dX6_near_56 rfl (lv_at hl 1 rfl) ?_
            refine cG_603 C in_6 hw.1 k_41 dX6_near_57 ?_
            refine lv_aload hx hb dX6_near_60 (lv_at hl 0 rfl) ?_
            refine lv_iload_n hx hb dX6_near_62 rfl (lv_at hl 3 rfl) ?_
            refine lv_iload_n hx hb dX6_near_63 rfl (lv_at hl 4 rfl) ?_
            obtain ⟨r_64, e_64, h⟩ := bnd_of h
            refine callP (W.runV (As := [va_rf (some z_9), .int x2, .int x3]) C (cS_isNear e_64 (pr_in hq_9)) (cwV 3 hts gX6_near_X5_isNear rfl rfl rfl (by decide +kernel) ⟨by decide, by decide⟩) (preR (recv_599 hw.1) hw.1) rfl rfl hl.1 rfl (lv_room (Nat.le_of_ble_eq_true rfl)) dX6_near_64 ⟨by show _ ≤ 243; omega, by show _ ≤ 1215; omega⟩) ?_
            refine lv_if_eq (tgt := 74) hx hb dX6_near_67 (by decide) (fun c_67 => ?_) (fun c_67 => ?_)
            · have h := zz_pos c_67 h
              refine lv_iconst (v := (0 : Int32)) hx hb dX6_near_74 (by decide) ?_
              refine W.widen (k := 243) (n := 1215) (by omega) (by omega) ?_
              exact W.iret hx hb hr (fun t ht hW => QC.of (by rw [← some_of h]) (by rw [← some_of h]; exact hw) hg ht hW) hw.2.2.2.2 dX6_near_75
            · have h := zz_neg c_67 h
              refine lv_iconst (v := (1 : Int32)) hx hb dX6_near_70 (by decide) ?_
              refine lv_goto (tgt := 75) hx hb dX6_near_71 (by decide) ?_
              refine W.widen (k := 243) (n := 1215) (by omega) (by omega) ?_
              exact W.iret hx hb hr (fun t ht hW => QC.of (by rw [← some_of h]) (by rw [← some_of h]; exact hw) hg ht hW) hw.2.2.2.2 dX6_near_75
          · have h := zz_pos c_50 h
            refine lv_bipush (v := (-3 : Int32)) hx hb dX6_near_53 (by decide) ?_
            refine W.widen (k := 243) (n := 1215) (by omega) (by omega) ?_
            exact W.iret hx hb hr (fun t ht hW => QC.of (by rw [← some_of h]) (by rw [← some_of h]; exact hw) hg ht hW) hw.2.2.2.2 dX6_near_55
      · have h := zz_pos c_25 h
        refine lv_bipush (v := (-2 : Int32)) hx hb dX6_near_28 (by decide) ?_
        refine W.widen (k := 243) (n := 1215) (by omega) (by omega) ?_
        exact W.iret hx hb hr (fun t ht hW => QC.of (by rw [← some_of h]) (by rw [← some_of h]; exact hw) hg ht hW) hw.2.2.2.2 dX6_near_30
    · have h := zz_pos c_16 h
      refine lv_iconst (v := (-1 : Int32)) hx hb dX6_near_19 (by decide) ?_
      refine W.widen (k := 243) (n := 1215) (by omega) (by omega) ?_
      exact W.iret hx hb hr (fun t ht hW => QC.of (by rw [← some_of h]) (by rw [← some_of h]; exact hw) hg ht hW) hw.2.2.2.2 dX6_near_20
def fC_worst (N : Nat) (σ : CSt) (x1 : Int32) : Option (Int32 × CSt) := (fC_planAt N σ x1).bind fun r_2 => on r_2 (some ((-1 : Int32), σ)) (fun x_7 => (fQ_allTables N σ).bind fun r_20 => (if x_7.1 = r_20 then (fC_tellSpans N σ).bind fun r_27 => (if r_27.1 = 0 then some ((-3 : Int32), r_27.2) else (fS_worstPoint N r_27.2 (some x_7)).bind fun r_41 => some (r_41, r_27.2)) else some ((-3 : Int32), σ)))
set_option maxRecDepth 100000 in
set_option maxHeartbeats 4000000 in
theorem cC_worst {l : Launch} {D : va_G} {κ : Nat → ClassId} {ρ : Nat → Nat} {g0 : Gh} {sz : Nat} {N : Nat} {σ : CSt} {x1 : Int32} {q : Int32 × CSt} (h : fC_worst N σ x1 = some q) : Met l yX6_worst wsX6_worst ({ frames := 7, cells := 243, slots := 1215, locals := 180 } : Room) (va_Pc [.ref (ρ 699), .int x1] (PC D κ ρ sz g0 σ)) (QC D κ ρ sz g0 q.2 (some (.int q.1))) 243 1215 (AC ρ g0 sz) := by
  refine cMetM (Qc := fun z => QC D κ ρ z g0 q.2 (some (.int q.1))) (ret := (some .int)) (by decide) rfl rfl (Nat.le_of_ble_eq_true rfl) ?_
  intro p e s m below meth c ls C hr hlk hw hl
  obtain ⟨g, eg⟩ : ∃ x, x = g0 := ⟨_, rfl⟩
  have hw : WC D κ ρ (AC ρ g0 s.heap.size) s.heap g σ s s.heap [] := by rw [eg]; exact hw
  have hg : sub g0 g := by rw [eg]; exact sub_rf g0
  refine W.widen (k := 0) (n := 0) (Nat.le_refl _) (Nat.le_refl _) ?_
  obtain ⟨ce, ece⟩ : ∃ x : Nat, x = 0 := ⟨_, rfl⟩
  obtain ⟨sl, esl⟩ : ∃ x : Nat, x = 0 := ⟨_, rfl⟩
  refine W.widen (k := ce) (n := sl) (Nat.zero_le _) (Nat.zero_le _) ?_
  have hl : lv_has ls 3 [(0, .ref (ρ 699)), (1, .int x1)] := hl
  unfold fC_worst at h
  have hx := C.1
  have hb := C.2.1
  have hts := C.2.2.2.2
  have hown := C.2.2.2.1
  have k_14 := hts (.fieldLink RX6 14 "PlanCabinet" "question" "LPlanCabinet$Question;") (by decide +kernel)
  have k_41 := hts (.fieldLink RX6 41 "PlanCabinet" "spans" "LPlanCabinet$Spans;") (by decide +kernel)
  have k_122 := hts (.fieldLink RX6 122 "PlanCabinet$Plan" "set" "I") (by decide +kernel)
  have in_1 : ∀ w ∈ wsX10, w ∈ wsX6_worst := by decide +kernel
  have in_6 : ∀ w ∈ wsX60, w ∈ wsX6_worst := by decide +kernel
  refine lv_aload_n hx hb dX6_worst_0 rfl (lv_at hl 0 rfl) ?_
  refine lv_iload_n hx hb dX6_worst_1 rfl (lv_at hl 1 rfl) ?_
  obtain ⟨r_2, e_2, h⟩ := bnd_of h
  refine callPq (W.runV (As := [.int x1]) C (cC_planAt e_2) (cwV 1 hts gX6_worst_X6_planAt rfl rfl rfl (by decide +kernel) ⟨by decide, by decide⟩) (preR (recv_699 hw.1) hw.1) rfl rfl hl.1 rfl (lv_room (Nat.le_of_ble_eq_true rfl)) dX6_worst_2 ⟨by show _ ≤ 243; omega, by show _ ≤ 1215; omega⟩) (fun z_2 hp_2 => ?_)
  refine cAstore_n (lv' := [(2, va_rf z_2), (0, .ref (ρ 699)), (1, .int x1)]) hx hb dX6_worst_5 rfl hl (by decide) rfl (fun ls hl => ?_)
  refine cAload_n hx hb dX6_worst_6 rfl (lv_at hl 0 rfl) ?_
  refine cNonnull (tgt := 12) hx hb hp_2 dX6_worst_7 (by decide) (fun ez_7 ex_7 => ?_) (fun z_7 x_7 ez_7 ex_7 hq_7 => ?_)
  · have h := on_none ex_7 h
    subst ez_7
    have hl : lv_has ls 3 [(2, .null), (0, .ref (ρ 699)), (1, .int x1)] := hl
    refine lv_iconst (v := (-1 : Int32)) hx hb dX6_worst_10 (by decide) ?_
    refine W.widen (k := 243) (n := 1215) (by omega) (by omega) ?_
    exact W.iret hx hb hr (fun t ht hW => QC.of (by rw [← some_of h]) (by rw [← some_of h]; exact hw) hg ht hW) hw.2.2.2.2 dX6_worst_11
  · have h := on_some ex_7 h
    subst ez_7
    have hl : lv_has ls 3 [(2, .ref z_7), (0, .ref (ρ 699)), (1, .int x1)] := hl
    refine lv_aload_n hx hb dX6_worst_12 rfl (lv_at hl 0 rfl) ?_
    refine cGP_0 C in_1 hw.1 hq_7 k_122 dX6_worst_13 ?_
    refine lv_aload_n hx hb dX6_worst_16 rfl (lv_at hl 1 rfl) ?_
    refine cG_600 C in_6 hw.1 k_14 dX6_worst_17 ?_
    obtain ⟨r_20, e_20, h⟩ := bnd_of h
    refine callP (W.runV (As := []) C (cQ_allTables e_20) (cwV 0 hts gX6_worst_X3_allTables rfl rfl rfl (by decide +kernel) ⟨by decide, by decide⟩) (preR (recv_399 hw.1) hw.1) rfl rfl hl.1 rfl (lv_room (Nat.le_of_ble_eq_true rfl)) dX6_worst_20 ⟨by show _ ≤ 243; omega, by show _ ≤ 1215; omega⟩) ?_
    refine lv_icmp_ne (tgt := 33) hx hb dX6_worst_23 (by decide) (fun c_23 => ?_) (fun c_23 => ?_)
    · have h := zz_neg c_23 h
      refine lv_bipush (v := (-3 : Int32)) hx hb dX6_worst_33 (by decide) ?_
      refine W.widen (k := 243) (n := 1215) (by omega) (by omega) ?_
      exact W.iret hx hb hr (fun t ht hW => QC.of (by rw [← some_of h]) (by rw [← some_of h]; exact hw) hg ht hW) hw.2.2.2.2 dX6_worst_35
    · have h := zz_pos c_23 h
      refine lv_aload_n hx hb dX6_worst_26 rfl (lv_at hl 1 rfl) ?_
      obtain ⟨r_27, e_27, h⟩ := bnd_of h
      refine callC (va_runV (As := []) C (cC_tellSpans e_27) (cwV 0 hts gX6_worst_X6_tellSpans rfl rfl rfl (by decide +kernel) ⟨by decide, by decide⟩) (preM (recv_699 hw.1) hw) rfl rfl hl.1 rfl (lv_room (Nat.le_of_ble_eq_true rfl)) dX6_worst_27 ⟨by show _ ≤ 243; omega, by show _ ≤ 1215; omega⟩) hw (fun _ h => Or.inr h) (fun g H locs hs hw => ?_)
      have hg := sub_tr hg hs
      have hq_7 := hs _ hq_7
      obtain ⟨ce, ec_27⟩ : ∃ x, x = ce + 243 := ⟨_, rfl⟩
      obtain ⟨sl, es_27⟩ : ∃ x, x = sl + 1215 := ⟨_, rfl⟩
      rw [← ec_27, ← es_27]
      refine lv_if_ne (tgt := 36) hx hb dX6_worst_30 (by decide) (fun c_30 => ?_) (fun c_30 => ?_)
      · have h := zz_neg c_30 h
        refine lv_aload_n hx hb dX6_worst_36 rfl (lv_at hl 1 rfl) ?_
        refine cG_603 C in_6 hw.1 k_41 dX6_worst_37 ?_
        refine lv_aload_n hx hb dX6_worst_40 rfl (lv_at hl 0 rfl) ?_
        obtain ⟨r_41, e_41, h⟩ := bnd_of h
        refine callP (W.runV (As := [va_rf (some z_7)]) C (cS_worstPoint e_41 (pr_in hq_7)) (cwV 1 hts gX6_worst_X5_worstPoint rfl rfl rfl (by decide +kernel) ⟨by decide, by decide⟩) (preR (recv_599 hw.1) hw.1) rfl rfl hl.1 rfl (lv_room (Nat.le_of_ble_eq_true rfl)) dX6_worst_41 ⟨by show _ ≤ 243; omega, by show _ ≤ 1215; omega⟩) ?_
        refine W.widen (k := 243) (n := 1215) (by omega) (by omega) ?_
        exact W.iret hx hb hr (fun t ht hW => QC.of (by rw [← some_of h]) (by rw [← some_of h]; exact hw) hg ht hW) hw.2.2.2.2 dX6_worst_44
      · have h := zz_pos c_30 h
        refine lv_bipush (v := (-3 : Int32)) hx hb dX6_worst_33 (by decide) ?_
        refine W.widen (k := 243) (n := 1215) (by omega) (by omega) ?_
        exact W.iret hx hb hr (fun t ht hW => QC.of (by rw [← some_of h]) (by rw [← some_of h]; exact hw) hg ht hW) hw.2.2.2.2 dX6_worst_35
def fC_blind (N : Nat) (σ : CSt) : Option (Int32 × CSt) := (fC_tellSpans N σ).bind fun r_1 => (if r_1.1 = 0 then some ((-3 : Int32), r_1.2) else (fS_leastWrong N r_1.2).bind fun r_11 => some (r_11, r_1.2))
set_option maxRecDepth 100000 in
set_option maxHeartbeats 4000000 in
theorem cC_blind {l : Launch} {D : va_G} {κ : Nat → ClassId} {ρ : Nat → Nat} {g0 : Gh} {sz : Nat} {N : Nat} {σ : CSt} {q : Int32 × CSt} (h : fC_blind N σ = some q) : Met l yX6_blind wsX6_blind ({ frames := 7, cells := 243, slots := 1215, locals := 180 } : Room) (va_Pc [.ref (ρ 699)] (PC D κ ρ sz g0 σ)) (QC D κ ρ sz g0 q.2 (some (.int q.1))) 243 1215 (AC ρ g0 sz) := by
  refine cMetM (Qc := fun z => QC D κ ρ z g0 q.2 (some (.int q.1))) (ret := (some .int)) (by decide) rfl rfl (Nat.le_of_ble_eq_true rfl) ?_
  intro p e s m below meth c ls C hr hlk hw hl
  obtain ⟨g, eg⟩ : ∃ x, x = g0 := ⟨_, rfl⟩
  have hw : WC D κ ρ (AC ρ g0 s.heap.size) s.heap g σ s s.heap [] := by rw [eg]; exact hw
  have hg : sub g0 g := by rw [eg]; exact sub_rf g0
  refine W.widen (k := 0) (n := 0) (Nat.le_refl _) (Nat.le_refl _) ?_
  obtain ⟨ce, ece⟩ : ∃ x : Nat, x = 0 := ⟨_, rfl⟩
  obtain ⟨sl, esl⟩ : ∃ x : Nat, x = 0 := ⟨_, rfl⟩
  refine W.widen (k := ce) (n := sl) (Nat.zero_le _) (Nat.zero_le _) ?_
  have hl : lv_has ls 1 [(0, .ref (ρ 699))] := hl
  unfold fC_blind at h
  have hx := C.1
  have hb := C.2.1
  have hts := C.2.2.2.2
  have hown := C.2.2.2.1
  have k_41 := hts (.fieldLink RX6 41 "PlanCabinet" "spans" "LPlanCabinet$Spans;") (by decide +kernel)
  have in_6 : ∀ w ∈ wsX60, w ∈ wsX6_blind := by decide +kernel
  refine lv_aload_n hx hb dX6_blind_0 rfl (lv_at hl 0 rfl) ?_
  obtain ⟨r_1, e_1, h⟩ := bnd_of h
  refine callC (va_runV (As := []) C (cC_tellSpans e_1) (cwV 0 hts gX6_blind_X6_tellSpans rfl rfl rfl (by decide +kernel) ⟨by decide, by decide⟩) (preM (recv_699 hw.1) hw) rfl rfl hl.1 rfl (lv_room (Nat.le_of_ble_eq_true rfl)) dX6_blind_1 ⟨by show _ ≤ 243; omega, by show _ ≤ 1215; omega⟩) hw (fun _ h => Or.inr h) (fun g H locs hs hw => ?_)
  have hg := sub_tr hg hs
  obtain ⟨ce, ec_1⟩ : ∃ x, x = ce + 243 := ⟨_, rfl⟩
  obtain ⟨sl, es_1⟩ : ∃ x, x = sl + 1215 := ⟨_, rfl⟩
  rw [← ec_1, ← es_1]
  refine lv_if_eq (tgt := 17) hx hb dX6_blind_4 (by decide) (fun c_4 => ?_) (fun c_4 => ?_)
  · have h := zz_pos c_4 h
    refine lv_bipush (v := (-3 : Int32)) hx hb dX6_blind_17 (by decide) ?_
    refine W.widen (k := 243) (n := 1215) (by omega) (by omega) ?_
    exact W.iret hx hb hr (fun t ht hW => QC.of (by rw [← some_of h]) (by rw [← some_of h]; exact hw) hg ht hW) hw.2.2.2.2 dX6_blind_19
  · have h := zz_neg c_4 h
    refine lv_aload_n hx hb dX6_blind_7 rfl (lv_at hl 0 rfl) ?_
    refine cG_603 C in_6 hw.1 k_41 dX6_blind_8 ?_
    obtain ⟨r_11, e_11, h⟩ := bnd_of h
    refine callP (W.runV (As := []) C (cS_leastWrong e_11) (cwV 0 hts gX6_blind_X5_leastWrong rfl rfl rfl (by decide +kernel) ⟨by decide, by decide⟩) (preR (recv_599 hw.1) hw.1) rfl rfl hl.1 rfl (lv_room (Nat.le_of_ble_eq_true rfl)) dX6_blind_11 ⟨by show _ ≤ 243; omega, by show _ ≤ 1215; omega⟩) ?_
    refine lv_goto (tgt := 19) hx hb dX6_blind_14 (by decide) ?_
    refine W.widen (k := 243) (n := 1215) (by omega) (by omega) ?_
    exact W.iret hx hb hr (fun t ht hW => QC.of (by rw [← some_of h]) (by rw [← some_of h]; exact hw) hg ht hW) hw.2.2.2.2 dX6_blind_19
def fC_cover (N : Nat) (σ : CSt) (x1 : Int32) : Option (Int32 × CSt) := (fC_areHundredths N x1).bind fun r_1 => (if r_1 = 0 then some ((-2 : Int32), σ) else (fC_tellSpans N σ).bind fun r_11 => (if r_11.1 = 0 then some ((-3 : Int32), r_11.2) else (if (r_11.2.1 500) ≤ (16 : Int32) then (fS_fewestNear N r_11.2 x1).bind fun r_37 => some (r_37.1, r_37.2) else some ((-3 : Int32), r_11.2))))
set_option maxRecDepth 100000 in
set_option maxHeartbeats 4000000 in
theorem cC_cover {l : Launch} {D : va_G} {κ : Nat → ClassId} {ρ : Nat → Nat} {g0 : Gh} {sz : Nat} {N : Nat} {σ : CSt} {x1 : Int32} {q : Int32 × CSt} (h : fC_cover N σ x1 = some q) : Met l yX6_cover wsX6_cover ({ frames := 7, cells := 243, slots := 1215, locals := 180 } : Room) (va_Pc [.ref (ρ 699), .int x1] (PC D κ ρ sz g0 σ)) (QC D κ ρ sz g0 q.2 (some (.int q.1))) 243 1215 (AC ρ g0 sz) := by
  refine cMetM (Qc := fun z => QC D κ ρ z g0 q.2 (some (.int q.1))) (ret := (some .int)) (by decide) rfl rfl (Nat.le_of_ble_eq_true rfl) ?_
  intro p e s m below meth c ls C hr hlk hw hl
  obtain ⟨g, eg⟩ : ∃ x, x = g0 := ⟨_, rfl⟩
  have hw : WC D κ ρ (AC ρ g0 s.heap.size) s.heap g σ s s.heap [] := by rw [eg]; exact hw
  have hg : sub g0 g := by rw [eg]; exact sub_rf g0
  refine W.widen (k := 0) (n := 0) (Nat.le_refl _) (Nat.le_refl _) ?_
  obtain ⟨ce, ece⟩ : ∃ x : Nat, x = 0 := ⟨_, rfl⟩
  obtain ⟨sl, esl⟩ : ∃ x : Nat, x = 0 := ⟨_, rfl⟩
  refine W.widen (k := ce) (n := sl) (Nat.zero_le _) (Nat.zero_le _) ?_
  have hl : lv_has ls 2 [(0, .ref (ρ 699)), (1, .int x1)] := hl
  unfold fC_cover at h
  have hx := C.1
  have hb := C.2.1
  have hts := C.2.2.2.2
  have hown := C.2.2.2.1
  have k_41 := hts (.fieldLink RX6 41 "PlanCabinet" "spans" "LPlanCabinet$Spans;") (by decide +kernel)
  have k_179 := hts (.fieldLink RX6 179 "PlanCabinet$Spans" "count" "I") (by decide +kernel)
  have in_5 : ∀ w ∈ wsX50, w ∈ wsX6_cover := by decide +kernel
  have in_6 : ∀ w ∈ wsX60, w ∈ wsX6_cover := by decide +kernel
  refine lv_iload_n hx hb dX6_cover_0 rfl (lv_at hl 1 rfl) ?_
  obtain ⟨r_1, e_1, h⟩ := bnd_of h
  refine callP (W.runS (As := [.int x1]) C (cC_areHundredths e_1) (cwS 1 hts gX6_cover_X6_areHundredths rfl rfl rfl (by decide +kernel) ⟨by decide, by decide⟩) preT rfl rfl hl.1 rfl (lv_room (Nat.le_of_ble_eq_true rfl)) dX6_cover_1 ⟨by show _ ≤ 243; omega, by show _ ≤ 1215; omega⟩) ?_
  refine lv_if_ne (tgt := 10) hx hb dX6_cover_4 (by decide) (fun c_4 => ?_) (fun c_4 => ?_)
  · have h := zz_neg c_4 h
    refine lv_aload_n hx hb dX6_cover_10 rfl (lv_at hl 0 rfl) ?_
    obtain ⟨r_11, e_11, h⟩ := bnd_of h
    refine callC (va_runV (As := []) C (cC_tellSpans e_11) (cwV 0 hts gX6_cover_X6_tellSpans rfl rfl rfl (by decide +kernel) ⟨by decide, by decide⟩) (preM (recv_699 hw.1) hw) rfl rfl hl.1 rfl (lv_room (Nat.le_of_ble_eq_true rfl)) dX6_cover_11 ⟨by show _ ≤ 243; omega, by show _ ≤ 1215; omega⟩) hw (fun _ h => Or.inr h) (fun g H locs hs hw => ?_)
    have hg := sub_tr hg hs
    obtain ⟨ce, ec_11⟩ : ∃ x, x = ce + 243 := ⟨_, rfl⟩
    obtain ⟨sl, es_11⟩ : ∃ x, x = sl + 1215 := ⟨_, rfl⟩
    rw [← ec_11, ← es_11]
    refine lv_if_eq (tgt := 29) hx hb dX6_cover_14 (by decide) (fun c_14 => ?_) (fun c_14 => ?_)
    · have h := zz_pos c_14 h
      refine lv_bipush (v := (-3 : Int32)) hx hb dX6_cover_29 (by decide) ?_
      refine W.widen (k := 243) (n := 1215) (by omega) (by omega) ?_
      exact W.iret hx hb hr (fun t ht hW => QC.of (by rw [← some_of h]) (by rw [← some_of h]; exact hw) hg ht hW) hw.2.2.2.2 dX6_cover_31
    · have h := zz_neg c_14 h
      refine lv_aload_n hx hb dX6_cover_17 rfl (lv_at hl 0 rfl) ?_
      refine cG_603 C in_6 hw.1 k_41 dX6_cover_18 ?_
      refine cG_500 C in_5 hw.1 k_179 dX6_cover_21 ?_
      refine lv_bipush (v := (16 : Int32)) hx hb dX6_cover_24 (by decide) ?_
      refine lv_icmp_le (tgt := 32) hx hb dX6_cover_26 (by decide) (fun c_26 => ?_) (fun c_26 => ?_)
      · have h := zz_pos c_26 h
        refine lv_aload_n hx hb dX6_cover_32 rfl (lv_at hl 0 rfl) ?_
        refine cG_603 C in_6 hw.1 k_41 dX6_cover_33 ?_
        refine lv_iload_n hx hb dX6_cover_36 rfl (lv_at hl 1 rfl) ?_
        obtain ⟨r_37, e_37, h⟩ := bnd_of h
        refine callC (va_runV (As := [.int x1]) C (cS_fewestNear e_37) (cwV 1 hts gX6_cover_X5_fewestNear rfl rfl rfl (by decide +kernel) ⟨by decide, by decide⟩) (preM (recv_599 hw.1) hw) rfl rfl hl.1 rfl (lv_room (Nat.le_of_ble_eq_true rfl)) dX6_cover_37 ⟨by show _ ≤ 243; omega, by show _ ≤ 1215; omega⟩) hw (fun _ h => Or.inr h) (fun g H locs hs hw => ?_)
        have hg := sub_tr hg hs
        refine W.widen (k := 243) (n := 1215) (by omega) (by omega) ?_
        exact W.iret hx hb hr (fun t ht hW => QC.of (by rw [← some_of h]) (by rw [← some_of h]; exact hw) hg ht hW) hw.2.2.2.2 dX6_cover_40
      · have h := zz_neg c_26 h
        refine lv_bipush (v := (-3 : Int32)) hx hb dX6_cover_29 (by decide) ?_
        refine W.widen (k := 243) (n := 1215) (by omega) (by omega) ?_
        exact W.iret hx hb hr (fun t ht hW => QC.of (by rw [← some_of h]) (by rw [← some_of h]; exact hw) hg ht hW) hw.2.2.2.2 dX6_cover_31
  · have h := zz_pos c_4 h
    refine lv_bipush (v := (-2 : Int32)) hx hb dX6_cover_7 (by decide) ?_
    refine W.widen (k := 243) (n := 1215) (by omega) (by omega) ?_
    exact W.iret hx hb hr (fun t ht hW => QC.of (by rw [← some_of h]) (by rw [← some_of h]; exact hw) hg ht hW) hw.2.2.2.2 dX6_cover_9
def fC_run (N : Nat) (σ : CSt) (x1 : Int32) : Option (Int32 × CSt) := (fC_planAt N σ x1).bind fun r_2 => on r_2 (some ((-1 : Int32), σ)) (fun x_7 => (fR_work N σ (some x_7)).bind fun r_19 => some (r_19.1, r_19.2))
set_option maxRecDepth 100000 in
set_option maxHeartbeats 4000000 in
theorem cC_run {l : Launch} {D : va_G} {κ : Nat → ClassId} {ρ : Nat → Nat} {g0 : Gh} {sz : Nat} {N : Nat} {σ : CSt} {x1 : Int32} {q : Int32 × CSt} (h : fC_run N σ x1 = some q) : Met l yX6_run wsX6_run ({ frames := 6, cells := 2, slots := 8200, locals := 143 } : Room) (va_Pc [.ref (ρ 699), .int x1] (PC D κ ρ sz g0 σ)) (QC D κ ρ sz g0 q.2 (some (.int q.1))) 2 8200 (AC ρ g0 sz) := by
  refine cMetM (Qc := fun z => QC D κ ρ z g0 q.2 (some (.int q.1))) (ret := (some .int)) (by decide) rfl rfl (Nat.le_of_ble_eq_true rfl) ?_
  intro p e s m below meth c ls C hr hlk hw hl
  obtain ⟨g, eg⟩ : ∃ x, x = g0 := ⟨_, rfl⟩
  have hw : WC D κ ρ (AC ρ g0 s.heap.size) s.heap g σ s s.heap [] := by rw [eg]; exact hw
  have hg : sub g0 g := by rw [eg]; exact sub_rf g0
  refine W.widen (k := 0) (n := 0) (Nat.le_refl _) (Nat.le_refl _) ?_
  obtain ⟨ce, ece⟩ : ∃ x : Nat, x = 0 := ⟨_, rfl⟩
  obtain ⟨sl, esl⟩ : ∃ x : Nat, x = 0 := ⟨_, rfl⟩
  refine W.widen (k := ce) (n := sl) (Nat.zero_le _) (Nat.zero_le _) ?_
  have hl : lv_has ls 3 [(0, .ref (ρ 699)), (1, .int x1)] := hl
  unfold fC_run at h
  have hx := C.1
  have hb := C.2.1
  have hts := C.2.2.2.2
  have hown := C.2.2.2.1
  have k_48 := hts (.fieldLink RX6 48 "PlanCabinet" "runner" "LPlanCabinet$Runner;") (by decide +kernel)
  have in_6 : ∀ w ∈ wsX60, w ∈ wsX6_run := by decide +kernel
  refine lv_aload_n hx hb dX6_run_0 rfl (lv_at hl 0 rfl) ?_
  refine lv_iload_n hx hb dX6_run_1 rfl (lv_at hl 1 rfl) ?_
  obtain ⟨r_2, e_2, h⟩ := bnd_of h
  refine callPq (W.runV (As := [.int x1]) C (cC_planAt e_2) (cwV 1 hts gX6_run_X6_planAt rfl rfl rfl (by decide +kernel) ⟨by decide, by decide⟩) (preR (recv_699 hw.1) hw.1) rfl rfl hl.1 rfl (lv_room (Nat.le_of_ble_eq_true rfl)) dX6_run_2 ⟨by show _ ≤ 2; omega, by show _ ≤ 8200; omega⟩) (fun z_2 hp_2 => ?_)
  refine cAstore_n (lv' := [(2, va_rf z_2), (0, .ref (ρ 699)), (1, .int x1)]) hx hb dX6_run_5 rfl hl (by decide) rfl (fun ls hl => ?_)
  refine cAload_n hx hb dX6_run_6 rfl (lv_at hl 0 rfl) ?_
  refine cNonnull (tgt := 14) hx hb hp_2 dX6_run_7 (by decide) (fun ez_7 ex_7 => ?_) (fun z_7 x_7 ez_7 ex_7 hq_7 => ?_)
  · have h := on_none ex_7 h
    subst ez_7
    have hl : lv_has ls 3 [(2, .null), (0, .ref (ρ 699)), (1, .int x1)] := hl
    refine lv_iconst (v := (-1 : Int32)) hx hb dX6_run_10 (by decide) ?_
    refine lv_goto (tgt := 22) hx hb dX6_run_11 (by decide) ?_
    refine W.widen (k := 2) (n := 8200) (by omega) (by omega) ?_
    exact W.iret hx hb hr (fun t ht hW => QC.of (by rw [← some_of h]) (by rw [← some_of h]; exact hw) hg ht hW) hw.2.2.2.2 dX6_run_22
  · have h := on_some ex_7 h
    subst ez_7
    have hl : lv_has ls 3 [(2, .ref z_7), (0, .ref (ρ 699)), (1, .int x1)] := hl
    refine lv_aload_n hx hb dX6_run_14 rfl (lv_at hl 1 rfl) ?_
    refine cG_604 C in_6 hw.1 k_48 dX6_run_15 ?_
    refine lv_aload_n hx hb dX6_run_18 rfl (lv_at hl 0 rfl) ?_
    obtain ⟨r_19, e_19, h⟩ := bnd_of h
    refine callC (va_runV (As := [va_rf (some z_7)]) C (cR_work e_19 (pr_in hq_7)) (cwV 1 hts gX6_run_X4_work rfl rfl rfl (by decide +kernel) ⟨by decide, by decide⟩) (preM (recv_499 hw.1) hw) rfl rfl hl.1 rfl (lv_room (Nat.le_of_ble_eq_true rfl)) dX6_run_19 ⟨by show _ ≤ 2; omega, by show _ ≤ 8200; omega⟩) hw (fun _ h => Or.inr h) (fun g H locs hs hw => ?_)
    have hg := sub_tr hg hs
    have hq_7 := hs _ hq_7
    obtain ⟨ce, ec_19⟩ : ∃ x, x = ce + 2 := ⟨_, rfl⟩
    obtain ⟨sl, es_19⟩ : ∃ x, x = sl + 8200 := ⟨_, rfl⟩
    rw [← ec_19, ← es_19]
    refine W.widen (k := 2) (n := 8200) (by omega) (by omega) ?_
    exact W.iret hx hb hr (fun t ht hW => QC.of (by rw [← some_of h]) (by rw [← some_of h]; exact hw) hg ht hW) hw.2.2.2.2 dX6_run_22
def fC_steps (N : Nat) (σ : CSt) : Option (Int32) := some (σ.1 400)
set_option maxRecDepth 100000 in
set_option maxHeartbeats 4000000 in
theorem cC_steps {l : Launch} {D : va_G} {κ : Nat → ClassId} {ρ : Nat → Nat} {g : Gh} {N : Nat} {σ : CSt} {r : Int32} (h : fC_steps N σ = some r) : Met l yX6_steps wsX6_steps ({ frames := 0, cells := 0, slots := 0, locals := 0 } : Room) (va_Pc [.ref (ρ 699)] (PRC D κ ρ g σ)) (PU (some (.int r))) 0 0 (fun _ => False) := by
  refine cMetR (ret := (some .int)) (by decide) rfl rfl (Nat.le_of_ble_eq_true rfl) ?_
  intro p e s m below meth c ls C hr hlk hw hl
  have hl : lv_has ls 1 [(0, .ref (ρ 699))] := hl
  unfold fC_steps at h
  have hx := C.1
  have hb := C.2.1
  have hts := C.2.2.2.2
  have hown := C.2.2.2.1
  have k_48 := hts (.fieldLink RX6 48 "PlanCabinet" "runner" "LPlanCabinet$Runner;") (by decide +kernel)
  have k_210 := hts (.fieldLink RX6 210 "PlanCabinet$Runner" "stepCount" "I") (by decide +kernel)
  have in_4 : ∀ w ∈ wsX40, w ∈ wsX6_steps := by decide +kernel
  have in_6 : ∀ w ∈ wsX60, w ∈ wsX6_steps := by decide +kernel
  refine lv_aload_n hx hb dX6_steps_0 rfl (lv_at hl 0 rfl) ?_
  refine cG_604 C in_6 hw k_48 dX6_steps_1 ?_
  refine cG_400 C in_4 hw k_210 dX6_steps_4 ?_
  exact W.iret hx hb hr (fun t ht hW => ⟨by rw [some_of h], ht⟩) (fun _ h => by cases h) dX6_steps_7
def fC_out (N : Nat) (σ : CSt) (x1 : Int32) (x2 : Int32) : Option (Int32) := (fR_rowOf N σ x1 x2).bind fun r_6 => some r_6
set_option maxRecDepth 100000 in
set_option maxHeartbeats 4000000 in
theorem cC_out {l : Launch} {D : va_G} {κ : Nat → ClassId} {ρ : Nat → Nat} {g : Gh} {N : Nat} {σ : CSt} {x1 : Int32} {x2 : Int32} {r : Int32} (h : fC_out N σ x1 x2 = some r) : Met l yX6_out wsX6_out ({ frames := 2, cells := 0, slots := 0, locals := 43 } : Room) (va_Pc [.ref (ρ 699), .int x1, .int x2] (PRC D κ ρ g σ)) (PU (some (.int r))) 0 0 (fun _ => False) := by
  refine cMetR (ret := (some .int)) (by decide) rfl rfl (Nat.le_of_ble_eq_true rfl) ?_
  intro p e s m below meth c ls C hr hlk hw hl
  have hl : lv_has ls 3 [(0, .ref (ρ 699)), (1, .int x1), (2, .int x2)] := hl
  unfold fC_out at h
  have hx := C.1
  have hb := C.2.1
  have hts := C.2.2.2.2
  have hown := C.2.2.2.1
  have k_48 := hts (.fieldLink RX6 48 "PlanCabinet" "runner" "LPlanCabinet$Runner;") (by decide +kernel)
  have in_6 : ∀ w ∈ wsX60, w ∈ wsX6_out := by decide +kernel
  refine lv_aload_n hx hb dX6_out_0 rfl (lv_at hl 0 rfl) ?_
  refine cG_604 C in_6 hw k_48 dX6_out_1 ?_
  refine lv_iload_n hx hb dX6_out_4 rfl (lv_at hl 1 rfl) ?_
  refine lv_iload_n hx hb dX6_out_5 rfl (lv_at hl 2 rfl) ?_
  obtain ⟨r_6, e_6, h⟩ := bnd_of h
  refine callP (W.runV (As := [.int x1, .int x2]) C (cR_rowOf e_6) (cwV 2 hts gX6_out_X4_rowOf rfl rfl rfl (by decide +kernel) ⟨by decide, by decide⟩) (preR (recv_499 hw) hw) rfl rfl hl.1 rfl (lv_room (Nat.le_of_ble_eq_true rfl)) dX6_out_6 ⟨Nat.zero_le _, Nat.zero_le _⟩) ?_
  exact W.iret hx hb hr (fun t ht hW => ⟨by rw [some_of h], ht⟩) (fun _ h => by cases h) dX6_out_9
def fC_holds (N : Nat) (σ : CSt) (x1 : Int32) : Option (Int32) := (fQ_isPairing N σ x1).bind fun r_5 => (if r_5 = 0 then some (-1 : Int32) else (fQ_matches N σ x1).bind fun r_16 => some r_16)
set_option maxRecDepth 100000 in
set_option maxHeartbeats 4000000 in
theorem cC_holds {l : Launch} {D : va_G} {κ : Nat → ClassId} {ρ : Nat → Nat} {g : Gh} {N : Nat} {σ : CSt} {x1 : Int32} {r : Int32} (h : fC_holds N σ x1 = some r) : Met l yX6_holds wsX6_holds ({ frames := 3, cells := 0, slots := 0, locals := 72 } : Room) (va_Pc [.ref (ρ 699), .int x1] (PRC D κ ρ g σ)) (PU (some (.int r))) 0 0 (fun _ => False) := by
  refine cMetR (ret := (some .int)) (by decide) rfl rfl (Nat.le_of_ble_eq_true rfl) ?_
  intro p e s m below meth c ls C hr hlk hw hl
  have hl : lv_has ls 2 [(0, .ref (ρ 699)), (1, .int x1)] := hl
  unfold fC_holds at h
  have hx := C.1
  have hb := C.2.1
  have hts := C.2.2.2.2
  have hown := C.2.2.2.1
  have k_14 := hts (.fieldLink RX6 14 "PlanCabinet" "question" "LPlanCabinet$Question;") (by decide +kernel)
  have in_6 : ∀ w ∈ wsX60, w ∈ wsX6_holds := by decide +kernel
  refine lv_aload_n hx hb dX6_holds_0 rfl (lv_at hl 0 rfl) ?_
  refine cG_600 C in_6 hw k_14 dX6_holds_1 ?_
  refine lv_iload_n hx hb dX6_holds_4 rfl (lv_at hl 1 rfl) ?_
  obtain ⟨r_5, e_5, h⟩ := bnd_of h
  refine callP (W.runV (As := [.int x1]) C (cQ_isPairing e_5) (cwV 1 hts gX6_holds_X3_isPairing rfl rfl rfl (by decide +kernel) ⟨by decide, by decide⟩) (preR (recv_399 hw) hw) rfl rfl hl.1 rfl (lv_room (Nat.le_of_ble_eq_true rfl)) dX6_holds_5 ⟨Nat.zero_le _, Nat.zero_le _⟩) ?_
  refine lv_if_eq (tgt := 22) hx hb dX6_holds_8 (by decide) (fun c_8 => ?_) (fun c_8 => ?_)
  · have h := zz_pos c_8 h
    refine lv_iconst (v := (-1 : Int32)) hx hb dX6_holds_22 (by decide) ?_
    exact W.iret hx hb hr (fun t ht hW => ⟨by rw [some_of h], ht⟩) (fun _ h => by cases h) dX6_holds_23
  · have h := zz_neg c_8 h
    refine lv_aload_n hx hb dX6_holds_11 rfl (lv_at hl 0 rfl) ?_
    refine cG_600 C in_6 hw k_14 dX6_holds_12 ?_
    refine lv_iload_n hx hb dX6_holds_15 rfl (lv_at hl 1 rfl) ?_
    obtain ⟨r_16, e_16, h⟩ := bnd_of h
    refine callP (W.runV (As := [.int x1]) C (cQ_matches e_16) (cwV 1 hts gX6_holds_X3_matches rfl rfl rfl (by decide +kernel) ⟨by decide, by decide⟩) (preR (recv_399 hw) hw) rfl rfl hl.1 rfl (lv_room (Nat.le_of_ble_eq_true rfl)) dX6_holds_16 ⟨Nat.zero_le _, Nat.zero_le _⟩) ?_
    refine lv_goto (tgt := 23) hx hb dX6_holds_19 (by decide) ?_
    exact W.iret hx hb hr (fun t ht hW => ⟨by rw [some_of h], ht⟩) (fun _ h => by cases h) dX6_holds_23
def fC_count (N : Nat) (σ : CSt) (x1 : Int32) : Option (Int32 × CSt) := (if x1 = (0 : Int32) then some ((σ.1 300), σ) else (if x1 = (1 : Int32) then (fQ_allRows N σ).bind fun r_56 => some (r_56, σ) else (if x1 = (2 : Int32) then some ((σ.1 301), σ) else (if x1 = (3 : Int32) then some ((σ.1 606), σ) else (if x1 = (4 : Int32) then some ((σ.1 302), σ) else (if x1 = (5 : Int32) then (fQ_isWhole N σ).bind fun r_85 => (if r_85 = 0 then some ((0 : Int32), σ) else some ((1 : Int32), σ)) else (if x1 = (6 : Int32) then (fQ_isWhole N σ).bind fun r_101 => (if r_101 = 0 then some ((0 : Int32), σ) else (fH_wholePlans N σ).bind fun r_111 => some (r_111.1, r_111.2)) else some ((-1 : Int32), σ))))))))
set_option maxRecDepth 100000 in
set_option maxHeartbeats 4000000 in
theorem cC_count {l : Launch} {D : va_G} {κ : Nat → ClassId} {ρ : Nat → Nat} {g0 : Gh} {sz : Nat} {N : Nat} {σ : CSt} {x1 : Int32} {q : Int32 × CSt} (h : fC_count N σ x1 = some q) : Met l yX6_count wsX6_count ({ frames := 3, cells := 0, slots := 0, locals := 63 } : Room) (va_Pc [.ref (ρ 699), .int x1] (PC D κ ρ sz g0 σ)) (QC D κ ρ sz g0 q.2 (some (.int q.1))) 0 0 (AC ρ g0 sz) := by
  refine cMetM (Qc := fun z => QC D κ ρ z g0 q.2 (some (.int q.1))) (ret := (some .int)) (by decide) rfl rfl (Nat.le_of_ble_eq_true rfl) ?_
  intro p e s m below meth c ls C hr hlk hw hl
  obtain ⟨g, eg⟩ : ∃ x, x = g0 := ⟨_, rfl⟩
  have hw : WC D κ ρ (AC ρ g0 s.heap.size) s.heap g σ s s.heap [] := by rw [eg]; exact hw
  have hg : sub g0 g := by rw [eg]; exact sub_rf g0
  have hl : lv_has ls 2 [(0, .ref (ρ 699)), (1, .int x1)] := hl
  unfold fC_count at h
  have hx := C.1
  have hb := C.2.1
  have hts := C.2.2.2.2
  have hown := C.2.2.2.1
  have k_14 := hts (.fieldLink RX6 14 "PlanCabinet" "question" "LPlanCabinet$Question;") (by decide +kernel)
  have k_32 := hts (.fieldLink RX6 32 "PlanCabinet" "chooser" "LPlanCabinet$Chooser;") (by decide +kernel)
  have k_58 := hts (.fieldLink RX6 58 "PlanCabinet" "planCount" "I") (by decide +kernel)
  have k_62 := hts (.fieldLink RX6 62 "PlanCabinet$Question" "tableCount" "I") (by decide +kernel)
  have k_88 := hts (.fieldLink RX6 88 "PlanCabinet$Question" "openPairing" "I") (by decide +kernel)
  have k_91 := hts (.fieldLink RX6 91 "PlanCabinet$Question" "pairingCount" "I") (by decide +kernel)
  have in_3 : ∀ w ∈ wsX30, w ∈ wsX6_count := by decide +kernel
  have in_6 : ∀ w ∈ wsX60, w ∈ wsX6_count := by decide +kernel
  refine lv_iload_n hx hb dX6_count_0 rfl (lv_at hl 1 rfl) ?_
  by_cases c_1_0 : x1 = (0 : Int32)
  · have h := zz_pos c_1_0 h
    refine lv_tableIn (tgt := 44) (off := 43) hx hb dX6_count_1 (by rw [c_1_0]; decide) (by rw [c_1_0]; decide) (by rw [c_1_0]; rfl) (by decide) ?_
    refine lv_aload_n hx hb dX6_count_44 rfl (lv_at hl 0 rfl) ?_
    refine cG_600 C in_6 hw.1 k_14 dX6_count_45 ?_
    refine cG_300 C in_3 hw.1 k_62 dX6_count_48 ?_
    exact W.iret hx hb hr (fun t ht hW => QC.of (by rw [← some_of h]) (by rw [← some_of h]; exact hw) hg ht hW) hw.2.2.2.2 dX6_count_51
  have h := zz_neg c_1_0 h
  by_cases c_1_1 : x1 = (1 : Int32)
  · have h := zz_pos c_1_1 h
    refine lv_tableIn (tgt := 52) (off := 51) hx hb dX6_count_1 (by rw [c_1_1]; decide) (by rw [c_1_1]; decide) (by rw [c_1_1]; rfl) (by decide) ?_
    refine lv_aload_n hx hb dX6_count_52 rfl (lv_at hl 0 rfl) ?_
    refine cG_600 C in_6 hw.1 k_14 dX6_count_53 ?_
    obtain ⟨r_56, e_56, h⟩ := bnd_of h
    refine callP (W.runV (As := []) C (cQ_allRows e_56) (cwV 0 hts gX6_count_X3_allRows rfl rfl rfl (by decide +kernel) ⟨by decide, by decide⟩) (preR (recv_399 hw.1) hw.1) rfl rfl hl.1 rfl (lv_room (Nat.le_of_ble_eq_true rfl)) dX6_count_56 ⟨Nat.zero_le _, Nat.zero_le _⟩) ?_
    exact W.iret hx hb hr (fun t ht hW => QC.of (by rw [← some_of h]) (by rw [← some_of h]; exact hw) hg ht hW) hw.2.2.2.2 dX6_count_59
  have h := zz_neg c_1_1 h
  by_cases c_1_2 : x1 = (2 : Int32)
  · have h := zz_pos c_1_2 h
    refine lv_tableIn (tgt := 60) (off := 59) hx hb dX6_count_1 (by rw [c_1_2]; decide) (by rw [c_1_2]; decide) (by rw [c_1_2]; rfl) (by decide) ?_
    refine lv_aload_n hx hb dX6_count_60 rfl (lv_at hl 0 rfl) ?_
    refine cG_600 C in_6 hw.1 k_14 dX6_count_61 ?_
    refine cG_301 C in_3 hw.1 k_91 dX6_count_64 ?_
    exact W.iret hx hb hr (fun t ht hW => QC.of (by rw [← some_of h]) (by rw [← some_of h]; exact hw) hg ht hW) hw.2.2.2.2 dX6_count_67
  have h := zz_neg c_1_2 h
  by_cases c_1_3 : x1 = (3 : Int32)
  · have h := zz_pos c_1_3 h
    refine lv_tableIn (tgt := 68) (off := 67) hx hb dX6_count_1 (by rw [c_1_3]; decide) (by rw [c_1_3]; decide) (by rw [c_1_3]; rfl) (by decide) ?_
    refine lv_aload_n hx hb dX6_count_68 rfl (lv_at hl 0 rfl) ?_
    refine cG_606 C in_6 hw.1 k_58 dX6_count_69 ?_
    exact W.iret hx hb hr (fun t ht hW => QC.of (by rw [← some_of h]) (by rw [← some_of h]; exact hw) hg ht hW) hw.2.2.2.2 dX6_count_72
  have h := zz_neg c_1_3 h
  by_cases c_1_4 : x1 = (4 : Int32)
  · have h := zz_pos c_1_4 h
    refine lv_tableIn (tgt := 73) (off := 72) hx hb dX6_count_1 (by rw [c_1_4]; decide) (by rw [c_1_4]; decide) (by rw [c_1_4]; rfl) (by decide) ?_
    refine lv_aload_n hx hb dX6_count_73 rfl (lv_at hl 0 rfl) ?_
    refine cG_600 C in_6 hw.1 k_14 dX6_count_74 ?_
    refine cG_302 C in_3 hw.1 k_88 dX6_count_77 ?_
    exact W.iret hx hb hr (fun t ht hW => QC.of (by rw [← some_of h]) (by rw [← some_of h]; exact hw) hg ht hW) hw.2.2.2.2 dX6_count_80
  have h := zz_neg c_1_4 h
  by_cases c_1_5 : x1 = (5 : Int32)
  · have h := zz_pos c_1_5 h
    refine lv_tableIn (tgt := 81) (off := 80) hx hb dX6_count_1 (by rw [c_1_5]; decide) (by rw [c_1_5]; decide) (by rw [c_1_5]; rfl) (by decide) ?_
    refine lv_aload_n hx hb dX6_count_81 rfl (lv_at hl 0 rfl) ?_
    refine cG_600 C in_6 hw.1 k_14 dX6_count_82 ?_
    obtain ⟨r_85, e_85, h⟩ := bnd_of h
    refine callP (W.runV (As := []) C (cQ_isWhole e_85) (cwV 0 hts gX6_count_X3_isWhole rfl rfl rfl (by decide +kernel) ⟨by decide, by decide⟩) (preR (recv_399 hw.1) hw.1) rfl rfl hl.1 rfl (lv_room (Nat.le_of_ble_eq_true rfl)) dX6_count_85 ⟨Nat.zero_le _, Nat.zero_le _⟩) ?_
    refine lv_if_eq (tgt := 95) hx hb dX6_count_88 (by decide) (fun c_88 => ?_) (fun c_88 => ?_)
    · have h := zz_pos c_88 h
      refine lv_iconst (v := (0 : Int32)) hx hb dX6_count_95 (by decide) ?_
      exact W.iret hx hb hr (fun t ht hW => QC.of (by rw [← some_of h]) (by rw [← some_of h]; exact hw) hg ht hW) hw.2.2.2.2 dX6_count_96
    · have h := zz_neg c_88 h
      refine lv_iconst (v := (1 : Int32)) hx hb dX6_count_91 (by decide) ?_
      refine lv_goto (tgt := 96) hx hb dX6_count_92 (by decide) ?_
      exact W.iret hx hb hr (fun t ht hW => QC.of (by rw [← some_of h]) (by rw [← some_of h]; exact hw) hg ht hW) hw.2.2.2.2 dX6_count_96
  have h := zz_neg c_1_5 h
  by_cases c_1_6 : x1 = (6 : Int32)
  · have h := zz_pos c_1_6 h
    refine lv_tableIn (tgt := 97) (off := 96) hx hb dX6_count_1 (by rw [c_1_6]; decide) (by rw [c_1_6]; decide) (by rw [c_1_6]; rfl) (by decide) ?_
    refine lv_aload_n hx hb dX6_count_97 rfl (lv_at hl 0 rfl) ?_
    refine cG_600 C in_6 hw.1 k_14 dX6_count_98 ?_
    obtain ⟨r_101, e_101, h⟩ := bnd_of h
    refine callP (W.runV (As := []) C (cQ_isWhole e_101) (cwV 0 hts gX6_count_X3_isWhole rfl rfl rfl (by decide +kernel) ⟨by decide, by decide⟩) (preR (recv_399 hw.1) hw.1) rfl rfl hl.1 rfl (lv_room (Nat.le_of_ble_eq_true rfl)) dX6_count_101 ⟨Nat.zero_le _, Nat.zero_le _⟩) ?_
    refine lv_if_eq (tgt := 117) hx hb dX6_count_104 (by decide) (fun c_104 => ?_) (fun c_104 => ?_)
    · have h := zz_pos c_104 h
      refine lv_iconst (v := (0 : Int32)) hx hb dX6_count_117 (by decide) ?_
      exact W.iret hx hb hr (fun t ht hW => QC.of (by rw [← some_of h]) (by rw [← some_of h]; exact hw) hg ht hW) hw.2.2.2.2 dX6_count_118
    · have h := zz_neg c_104 h
      refine lv_aload_n hx hb dX6_count_107 rfl (lv_at hl 0 rfl) ?_
      refine cG_602 C in_6 hw.1 k_32 dX6_count_108 ?_
      obtain ⟨r_111, e_111, h⟩ := bnd_of h
      refine callC (va_runV (As := []) C (cH_wholePlans e_111) (cwV 0 hts gX6_count_X0_wholePlans rfl rfl rfl (by decide +kernel) ⟨by decide, by decide⟩) (preM (recv_99 hw.1) hw) rfl rfl hl.1 rfl (lv_room (Nat.le_of_ble_eq_true rfl)) dX6_count_111 ⟨Nat.zero_le _, Nat.zero_le _⟩) hw (fun _ h => Or.inr h) (fun g H locs hs hw => ?_)
      have hg := sub_tr hg hs
      refine lv_goto (tgt := 118) hx hb dX6_count_114 (by decide) ?_
      exact W.iret hx hb hr (fun t ht hW => QC.of (by rw [← some_of h]) (by rw [← some_of h]; exact hw) hg ht hW) hw.2.2.2.2 dX6_count_118
  have h := zz_neg c_1_6 h
  refine lv_tableOut (tgt := 119) hx hb dX6_count_1 (by have e_0 := sw_ne (n := 0) 0 (by decide) c_1_0; have e_1 := sw_ne (n := 1) 1 (by decide) c_1_1; have e_2 := sw_ne (n := 2) 2 (by decide) c_1_2; have e_3 := sw_ne (n := 3) 3 (by decide) c_1_3; have e_4 := sw_ne (n := 4) 4 (by decide) c_1_4; have e_5 := sw_ne (n := 5) 5 (by decide) c_1_5; have e_6 := sw_ne (n := 6) 6 (by decide) c_1_6; omega) (by decide) ?_
  refine lv_iconst (v := (-1 : Int32)) hx hb dX6_count_119 (by decide) ?_
  exact W.iret hx hb hr (fun t ht hW => QC.of (by rw [← some_of h]) (by rw [← some_of h]; exact hw) hg ht hW) hw.2.2.2.2 dX6_count_120
