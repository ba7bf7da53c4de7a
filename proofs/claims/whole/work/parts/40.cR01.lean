/-! the class, R: work, rowOf -/
def fR_work_L21 (N : Nat) (K57 : CSt → Option Pl → Option (Int32 × CSt)) : Nat → CSt → Option Pl → Int32 → Option (Int32 × CSt)
  | 0, _, _, _ => none
  | n + 1, σ, x1, x2 => (if x2 < 0 then K57 σ x1 else on x1 none (fun x_27 => (fP_codeNumber N σ x_27 x2).bind fun r_27 => (if (4 : Int32) ≤ r_27 then (fR_joinTopTwo N σ (r_27 - (4 : Int32))).bind fun r_48 => fR_work_L21 N K57 n r_48 (some x_27) (x2 + (-1)) else (fR_pushRows N σ r_27).bind fun r_38 => fR_work_L21 N K57 n r_38 (some x_27) (x2 + (-1)))))
def fR_work (N : Nat) (σ : CSt) (x1 : Option Pl) : Option (Int32 × CSt) := (fR_makeRoom N σ).bind fun r_1 => on x1 none (fun x_15 => (fP_codeLength N (cI (cI r_1 400 (0 : Int32)) 410 (0 : Int32)) x_15).bind fun r_15 => fR_work_L21 N (fun (σ : CSt) (x1 : Option Pl) => on x1 none (fun x_59 => chk (1 : Int32) 5 ((fQ_orderFactor N (cI (cI σ 411 x_59.1) 412 ((cI σ 411 x_59.1).2.2.1 404 (1 : Int32).toNatClampNeg)) x_59.1 x_59.2.2.2.2).bind fun r_87 => (if r_87 ≤ 0 then some (((cI (cI σ 411 x_59.1) 412 ((cI σ 411 x_59.1).2.2.1 404 (1 : Int32).toNatClampNeg)).1 412), (cI (cI σ 411 x_59.1) 412 ((cI σ 411 x_59.1).2.2.1 404 (1 : Int32).toNatClampNeg))) else (fR_sort N (cI (cI σ 411 x_59.1) 412 ((cI σ 411 x_59.1).2.2.1 404 (1 : Int32).toNatClampNeg)) (0 : Int32) ((cI (cI σ 411 x_59.1) 412 ((cI σ 411 x_59.1).2.2.1 404 (1 : Int32).toNatClampNeg)).1 412) ((cI (cI σ 411 x_59.1) 412 ((cI σ 411 x_59.1).2.2.1 404 (1 : Int32).toNatClampNeg)).1 303) ((cI (cI σ 411 x_59.1) 412 ((cI σ 411 x_59.1).2.2.1 404 (1 : Int32).toNatClampNeg)).1 304)).bind fun r_115 => some (((cI r_115 400 ((r_115.1 400) + (r_87 * (r_115.1 412)))).1 412), (cI r_115 400 ((r_115.1 400) + (r_87 * (r_115.1 412))))))))) N (cI (cI r_1 400 (0 : Int32)) 410 (0 : Int32)) (some x_15) (r_15 - (1 : Int32)))
set_option maxRecDepth 100000 in
set_option maxHeartbeats 4000000 in
theorem wR_work_L21 {p : Program} {l : Launch} {e : Env} {s : State} {m : MethodId} {args : Array Value} {below : List Frame} {meth : Method} {c : Code} {D : va_G} {κ : Nat → ClassId} {ρ : Nat → Nat} {g0 : Gh} (C : CallFix p m c cX4_work 4 s args wsX4_work RX4) (hr : meth.sig.returnType = (some .int)) (hlk : meth.locks = false) {N : Nat} {q : Int32 × CSt} {K57 : CSt → Option Pl → Option (Int32 × CSt)} : ∀ (n : Nat) (σ : CSt) (x1 : Option Pl) (x2 : Int32) (zx1 : Option Nat) (g : Gh) (H : Heap) (locs : List Loc) (ce : Nat) (sl : Nat) (ls : Array Slot), fR_work_L21 N K57 n σ x1 x2 = some q → WC D κ ρ (AC ρ g0 s.heap.size) s.heap g σ s H locs → sub g0 g → ce ≤ 2 ∧ sl ≤ 8200 → pr g.2.2.2 zx1 x1 → lv_has ls 4 [(0, .ref (ρ 499)), (1, va_rf zx1), (2, .int x2)] → (∀ (σ : CSt) (x1 : Option Pl) (zx1 : Option Nat) (g : Gh) (H : Heap) (locs : List Loc) (ce : Nat) (sl : Nat) (ls : Array Slot), K57 σ x1 = some q → WC D κ ρ (AC ρ g0 s.heap.size) s.heap g σ s H locs → sub g0 g → ce ≤ 2 ∧ sl ≤ 8200 → pr g.2.2.2 zx1 x1 → lv_has ls 4 [(0, .ref (ρ 499)), (1, va_rf zx1)] → W p l e ({ frames := 5, cells := 2, slots := 8200, locals := 120 } : Room) s m args below meth c H locs ce sl (MQ below (QC D κ ρ s.heap.size g0 q.2 (some (.int q.1))) args s 2 8200 (AC ρ g0 s.heap.size)) (F0 m 57 ls [])) → W p l e ({ frames := 5, cells := 2, slots := 8200, locals := 120 } : Room) s m args below meth c H locs ce sl (MQ below (QC D κ ρ s.heap.size g0 q.2 (some (.int q.1))) args s 2 8200 (AC ρ g0 s.heap.size)) (F0 m 21 ls []) := by
  have hx := C.1
  have hb := C.2.1
  have hts := C.2.2.2.2
  have hown := C.2.2.2.1
  intro n
  induction n with
  | zero =>
    intro σ x1 x2 zx1 g H locs ce sl ls h hw hg hc hpx1 hl hK57
    rw [fR_work_L21] at h
    cases h
  | succ n ih =>
    intro σ x1 x2 zx1 g H locs ce sl ls h hw hg hc hpx1 hl hK57
    rw [fR_work_L21] at h
    refine lv_iload_n hx hb dX4_work_21 rfl (lv_at hl 2 rfl) ?_
    refine lv_if_lt (tgt := 57) hx hb dX4_work_22 (by decide) (fun c_22 => ?_) (fun c_22 => ?_)
    · have h := zz_pos c_22 h
      exact hK57 _ _ zx1 _ _ _ _ _ _ h hw hg (by omega) hpx1 (lv_sub hl [0, 1] rfl)
    · have h := zz_neg c_22 h
      refine cAload_n hx hb dX4_work_25 rfl (lv_at hl 1 rfl) ?_
      refine lv_iload_n hx hb dX4_work_26 rfl (lv_at hl 2 rfl) ?_
      obtain ⟨x_27, ex_27, h⟩ := on_ne h
      have hz_27 := hpx1
      rw [ex_27] at hz_27
      obtain ⟨z_27, ez_27, hq_27⟩ := pr_some hz_27
      subst ez_27
      have hl : lv_has ls 4 [(0, .ref (ρ 499)), (1, .ref z_27), (2, .int x2)] := hl
      refine W.eq (g2 := F0 m 27 ls [.int x2, .ref z_27]) rfl ?_
      obtain ⟨r_27, e_27, h⟩ := bnd_of h
      refine callP (W.runV (As := [.int x2]) C (cP_codeNumber e_27 hq_27) (cwV 1 hts gX4_work_X1_codeNumber rfl rfl rfl (by decide +kernel) ⟨by decide, by decide⟩) (preR (recvP hw.1 hq_27) hw.1) rfl rfl hl.1 rfl (lv_room (Nat.le_of_ble_eq_true rfl)) dX4_work_27 ⟨by show _ ≤ 2; omega, by show _ ≤ 8200; omega⟩) ?_
      refine lv_istore_n (lv' := [(3, .int r_27), (0, .ref (ρ 499)), (1, .ref z_27), (2, .int x2)]) hx hb dX4_work_30 rfl hl (by decide) rfl (fun ls hl => ?_)
      refine lv_iload_n hx hb dX4_work_31 rfl (lv_at hl 0 rfl) ?_
      refine lv_iconst (v := (4 : Int32)) hx hb dX4_work_32 (by decide) ?_
      refine lv_icmp_ge (tgt := 44) hx hb dX4_work_33 (by decide) (fun c_33 => ?_) (fun c_33 => ?_)
      · have h := zz_pos c_33 h
        refine lv_aload_n hx hb dX4_work_44 rfl (lv_at hl 1 rfl) ?_
        refine lv_iload_n hx hb dX4_work_45 rfl (lv_at hl 0 rfl) ?_
        refine lv_iconst (v := (4 : Int32)) hx hb dX4_work_46 (by decide) ?_
        refine lv_isub hx hb dX4_work_47 ?_
        obtain ⟨r_48, e_48, h⟩ := bnd_of h
        refine callC (va_runV (As := [.int (r_27 - (4 : Int32))]) C (cR_joinTopTwo e_48) (cwV 1 hts gX4_work_X4_joinTopTwo rfl rfl rfl (by decide +kernel) ⟨by decide, by decide⟩) (preM (recv_499 hw.1) hw) rfl rfl hl.1 rfl (lv_room (Nat.le_of_ble_eq_true rfl)) dX4_work_48 ⟨by show _ ≤ 2; omega, by show _ ≤ 8200; omega⟩) hw (fun _ h => Or.inr h) (fun g H locs hs hw => ?_)
        have hg := sub_tr hg hs
        have hq_27 := hs _ hq_27
        refine lv_iinc (v := (x2 + (-1))) (lv' := [(2, .int (x2 + (-1))), (3, .int r_27), (0, .ref (ρ 499)), (1, .ref z_27)]) hx hb dX4_work_51 hl (k := 3) rfl rfl (by decide) rfl (fun ls hl => ?_)
        refine lv_goto (tgt := 21) hx hb dX4_work_54 (by decide) ?_
        exact ih _ _ _ (some z_27) _ _ _ _ _ _ h hw hg (by omega) (pr_in hq_27) (lv_sub hl [2, 3, 0] rfl) hK57
      · have h := zz_neg c_33 h
        refine lv_aload_n hx hb dX4_work_36 rfl (lv_at hl 1 rfl) ?_
        refine lv_iload_n hx hb dX4_work_37 rfl (lv_at hl 0 rfl) ?_
        obtain ⟨r_38, e_38, h⟩ := bnd_of h
        refine callC (va_runV (As := [.int r_27]) C (cR_pushRows e_38) (cwV 1 hts gX4_work_X4_pushRows rfl rfl rfl (by decide +kernel) ⟨by decide, by decide⟩) (preM (recv_499 hw.1) hw) rfl rfl hl.1 rfl (lv_room (Nat.le_of_ble_eq_true rfl)) dX4_work_38 ⟨by show _ ≤ 2; omega, by show _ ≤ 8200; omega⟩) hw (fun _ h => Or.inr h) (fun g H locs hs hw => ?_)
        have hg := sub_tr hg hs
        have hq_27 := hs _ hq_27
        refine lv_goto (tgt := 51) hx hb dX4_work_41 (by decide) ?_
        refine lv_iinc (v := (x2 + (-1))) (lv' := [(2, .int (x2 + (-1))), (3, .int r_27), (0, .ref (ρ 499)), (1, .ref z_27)]) hx hb dX4_work_51 hl (k := 3) rfl rfl (by decide) rfl (fun ls hl => ?_)
        refine lv_goto (tgt := 21) hx hb dX4_work_54 (by decide) ?_
        exact ih _ _ _ (some z_27) _ _ _ _ _ _ h hw hg (by omega) (pr_in hq_27) (lv_sub hl [2, 3, 0] rfl) hK57
set_option maxRecDepth 100000 in
set_option maxHeartbeats 4000000 in
theorem cR_work {l : Launch} {D : va_G} {κ : Nat → ClassId} {ρ : Nat → Nat} {g0 : Gh} {sz : Nat} {N : Nat} {σ : CSt} {x1 : Option Pl} {zx1 : Option Nat} {q : Int32 × CSt} (h : fR_work N σ x1 = some q) (hpx1 : pr g0.2.2.2 zx1 x1) : Met l yX4_work wsX4_work ({ frames := 5, cells := 2, slots := 8200, locals := 120 } : Room) (va_Pc [.ref (ρ 499), va_rf zx1] (PC D κ ρ sz g0 σ)) (QC D κ ρ sz g0 q.2 (some (.int q.1))) 2 8200 (AC ρ g0 sz) := by
  refine cMetM (Qc := fun z => QC D κ ρ z g0 q.2 (some (.int q.1))) (ret := (some .int)) (by decide) rfl rfl (by cases zx1 <;> exact Nat.le_of_ble_eq_true rfl) ?_
  intro p e s m below meth c ls C hr hlk hw hl
  obtain ⟨g, eg⟩ : ∃ x, x = g0 := ⟨_, rfl⟩
  have hw : WC D κ ρ (AC ρ g0 s.heap.size) s.heap g σ s s.heap [] := by rw [eg]; exact hw
  have hg : sub g0 g := by rw [eg]; exact sub_rf g0
  have hpx1 : pr g.2.2.2 zx1 x1 := by rw [eg]; exact hpx1
  refine W.widen (k := 0) (n := 0) (Nat.le_refl _) (Nat.le_refl _) ?_
  obtain ⟨ce, ece⟩ : ∃ x : Nat, x = 0 := ⟨_, rfl⟩
  obtain ⟨sl, esl⟩ : ∃ x : Nat, x = 0 := ⟨_, rfl⟩
  refine W.widen (k := ce) (n := sl) (Nat.zero_le _) (Nat.zero_le _) ?_
  have hl : lv_has ls 4 [(0, .ref (ρ 499)), (1, va_rf zx1)] := by cases zx1 <;> exact hl
  unfold fR_work at h
  have hx := C.1
  have hb := C.2.1
  have hts := C.2.2.2.2
  have hown := C.2.2.2.1
  have k_18 := hts (.fieldLink RX4 18 "PlanCabinet$Runner" "starts" "[I") (by decide +kernel)
  have k_33 := hts (.fieldLink RX4 33 "PlanCabinet$Runner" "question" "LPlanCabinet$Question;") (by decide +kernel)
  have k_40 := hts (.fieldLink RX4 40 "PlanCabinet$Runner" "stepCount" "I") (by decide +kernel)
  have k_44 := hts (.fieldLink RX4 44 "PlanCabinet$Runner" "depth" "I") (by decide +kernel)
  have k_64 := hts (.fieldLink RX4 64 "PlanCabinet$Plan" "set" "I") (by decide +kernel)
  have k_67 := hts (.fieldLink RX4 67 "PlanCabinet$Runner" "resultSet" "I") (by decide +kernel)
  have k_70 := hts (.fieldLink RX4 70 "PlanCabinet$Runner" "resultCount" "I") (by decide +kernel)
  have k_73 := hts (.fieldLink RX4 73 "PlanCabinet$Plan" "inOrder" "Z") (by decide +kernel)
  have k_83 := hts (.fieldLink RX4 83 "PlanCabinet$Question" "orderTable" "I") (by decide +kernel)
  have k_86 := hts (.fieldLink RX4 86 "PlanCabinet$Question" "orderColumn" "I") (by decide +kernel)
  have in_1 : ∀ w ∈ wsX10, w ∈ wsX4_work := by decide +kernel
  have in_3 : ∀ w ∈ wsX30, w ∈ wsX4_work := by decide +kernel
  have in_4 : ∀ w ∈ wsX40, w ∈ wsX4_work := by decide +kernel
  refine lv_aload_n hx hb dX4_work_0 rfl (lv_at hl 0 rfl) ?_
  obtain ⟨r_1, e_1, h⟩ := bnd_of h
  refine callC (va_runV (As := []) C (cR_makeRoom e_1) (cwV 0 hts gX4_work_X4_makeRoom rfl rfl rfl (by decide +kernel) ⟨by decide, by decide⟩) (preM (recv_499 hw.1) hw) rfl rfl hl.1 rfl (lv_room (Nat.le_of_ble_eq_true rfl)) dX4_work_1 ⟨by show _ ≤ 2; omega, by show _ ≤ 8200; omega⟩) hw (fun _ h => Or.inr h) (fun g H locs hs hw => ?_)
  have hg := sub_tr hg hs
  have hpx1 := pr_mono hs hpx1
  obtain ⟨ce, ec_1⟩ : ∃ x, x = ce + 2 := ⟨_, rfl⟩
  obtain ⟨sl, es_1⟩ : ∃ x, x = sl + 8200 := ⟨_, rfl⟩
  rw [← ec_1, ← es_1]
  refine lv_aload_n hx hb dX4_work_4 rfl (lv_at hl 0 rfl) ?_
  refine lv_iconst (v := (0 : Int32)) hx hb dX4_work_5 (by decide) ?_
  refine cPf_400 C in_4 hw k_40 dX4_work_6 (fun H locs hw => ?_)
  refine lv_aload_n hx hb dX4_work_9 rfl (lv_at hl 0 rfl) ?_
  refine lv_iconst (v := (0 : Int32)) hx hb dX4_work_10 (by decide) ?_
  refine cPf_410 C in_4 hw k_44 dX4_work_11 (fun H locs hw => ?_)
  refine cAload_n hx hb dX4_work_14 rfl (lv_at hl 1 rfl) ?_
  obtain ⟨x_15, ex_15, h⟩ := on_ne h
  have hz_15 := hpx1
  rw [ex_15] at hz_15
  obtain ⟨z_15, ez_15, hq_15⟩ := pr_some hz_15
  subst ez_15
  have hl : lv_has ls 4 [(0, .ref (ρ 499)), (1, .ref z_15)] := hl
  refine W.eq (g2 := F0 m 15 ls [.ref z_15]) rfl ?_
  obtain ⟨r_15, e_15, h⟩ := bnd_of h
  refine callP (W.runV (As := []) C (cP_codeLength e_15 hq_15) (cwV 0 hts gX4_work_X1_codeLength rfl rfl rfl (by decide +kernel) ⟨by decide, by decide⟩) (preR (recvP hw.1 hq_15) hw.1) rfl rfl hl.1 rfl (lv_room (Nat.le_of_ble_eq_true rfl)) dX4_work_15 ⟨by show _ ≤ 2; omega, by show _ ≤ 8200; omega⟩) ?_
  refine lv_iconst (v := (1 : Int32)) hx hb dX4_work_18 (by decide) ?_
  refine lv_isub hx hb dX4_work_19 ?_
  refine lv_istore_n (lv' := [(2, .int (r_15 - (1 : Int32))), (0, .ref (ρ 499)), (1, .ref z_15)]) hx hb dX4_work_20 rfl hl (by decide) rfl (fun ls hl => ?_)
  refine wR_work_L21 C hr hlk  _ _ _ _ (some z_15) _ _ _ _ _ _ h hw hg (by omega) (pr_in hq_15) (lv_sub hl [1, 2, 0] rfl) ?_
  intro σ x1 zx1 g H locs ce sl ls h hw hg hc hpx1 hl
  refine lv_aload_n hx hb dX4_work_57 rfl (lv_at hl 0 rfl) ?_
  refine cAload_n hx hb dX4_work_58 rfl (lv_at hl 1 rfl) ?_
  obtain ⟨x_59, ex_59, h⟩ := on_ne h
  have hz_59 := hpx1
  rw [ex_59] at hz_59
  obtain ⟨z_59, ez_59, hq_59⟩ := pr_some hz_59
  subst ez_59
  have hl : lv_has ls 4 [(0, .ref (ρ 499)), (1, .ref z_59)] := hl
  refine W.eq (g2 := F0 m 59 ls [.ref z_59, .ref (ρ 499)]) rfl ?_
  refine cGP_0 C in_1 hw.1 hq_59 k_64 dX4_work_59 ?_
  refine cPf_411 C in_4 hw k_67 dX4_work_62 (fun H locs hw => ?_)
  refine lv_aload_n hx hb dX4_work_65 rfl (lv_at hl 0 rfl) ?_
  refine lv_aload_n hx hb dX4_work_66 rfl (lv_at hl 0 rfl) ?_
  refine cG_404 C in_4 hw.1 k_18 dX4_work_67 ?_
  refine lv_iconst (v := (1 : Int32)) hx hb dX4_work_70 (by decide) ?_
  obtain ⟨b_71, h⟩ := chk_of h
  refine cL_404 C hw.1 b_71 dX4_work_71 ?_
  refine cPf_412 C in_4 hw k_70 dX4_work_72 (fun H locs hw => ?_)
  refine lv_aload_n hx hb dX4_work_75 rfl (lv_at hl 0 rfl) ?_
  refine cG_401 C in_4 hw.1 k_33 dX4_work_76 ?_
  refine lv_aload_n hx hb dX4_work_79 rfl (lv_at hl 1 rfl) ?_
  refine cGP_0 C in_1 hw.1 hq_59 k_64 dX4_work_80 ?_
  refine lv_aload_n hx hb dX4_work_83 rfl (lv_at hl 1 rfl) ?_
  refine cGP_4 C in_1 hw.1 hq_59 k_73 dX4_work_84 ?_
  obtain ⟨r_87, e_87, h⟩ := bnd_of h
  refine callP (W.runV (As := [.int x_59.1, .int x_59.2.2.2.2]) C (cQ_orderFactor e_87) (cwV 2 hts gX4_work_X3_orderFactor rfl rfl rfl (by decide +kernel) ⟨by decide, by decide⟩) (preR (recv_399 hw.1) hw.1) rfl rfl hl.1 rfl (lv_room (Nat.le_of_ble_eq_true rfl)) dX4_work_87 ⟨by show _ ≤ 2; omega, by show _ ≤ 8200; omega⟩) ?_
  refine lv_istore_n (lv' := [(2, .int r_87), (0, .ref (ρ 499)), (1, .ref z_59)]) hx hb dX4_work_90 rfl hl (by decide) rfl (fun ls hl => ?_)
  refine lv_iload_n hx hb dX4_work_91 rfl (lv_at hl 0 rfl) ?_
  refine lv_if_le (tgt := 133) hx hb dX4_work_92 (by decide) (fun c_92 => ?_) (fun c_92 => ?_)
  · have h := zz_pos c_92 h
    refine lv_aload_n hx hb dX4_work_133 rfl (lv_at hl 1 rfl) ?_
    refine cG_412 C in_4 hw.1 k_70 dX4_work_134 ?_
    refine W.widen (k := 2) (n := 8200) (by omega) (by omega) ?_
    exact W.iret hx hb hr (fun t ht hW => QC.of (by rw [← some_of h]) (by rw [← some_of h]; exact hw) hg ht hW) hw.2.2.2.2 dX4_work_137
  · have h := zz_neg c_92 h
    refine lv_aload_n hx hb dX4_work_95 rfl (lv_at hl 1 rfl) ?_
    refine lv_iconst (v := (0 : Int32)) hx hb dX4_work_96 (by decide) ?_
    refine lv_aload_n hx hb dX4_work_97 rfl (lv_at hl 1 rfl) ?_
    refine cG_412 C in_4 hw.1 k_70 dX4_work_98 ?_
    refine lv_aload_n hx hb dX4_work_101 rfl (lv_at hl 1 rfl) ?_
    refine cG_401 C in_4 hw.1 k_33 dX4_work_102 ?_
    refine cG_303 C in_3 hw.1 k_83 dX4_work_105 ?_
    refine lv_aload_n hx hb dX4_work_108 rfl (lv_at hl 1 rfl) ?_
    refine cG_401 C in_4 hw.1 k_33 dX4_work_109 ?_
    refine cG_304 C in_3 hw.1 k_86 dX4_work_112 ?_
    obtain ⟨r_115, e_115, h⟩ := bnd_of h
    refine callC (va_runV (As := [.int (0 : Int32), .int ((cI (cI σ 411 x_59.1) 412 ((cI σ 411 x_59.1).2.2.1 404 (1 : Int32).toNatClampNeg)).1 412), .int ((cI (cI σ 411 x_59.1) 412 ((cI σ 411 x_59.1).2.2.1 404 (1 : Int32).toNatClampNeg)).1 303), .int ((cI (cI σ 411 x_59.1) 412 ((cI σ 411 x_59.1).2.2.1 404 (1 : Int32).toNatClampNeg)).1 304)]) C (cR_sort e_115) (cwV 4 hts gX4_work_X4_sort rfl rfl rfl (by decide +kernel) ⟨by decide, by decide⟩) (preM (recv_499 hw.1) hw) rfl rfl hl.1 rfl (lv_room (Nat.le_of_ble_eq_true rfl)) dX4_work_115 ⟨by show _ ≤ 2; omega, by show _ ≤ 8200; omega⟩) hw (fun _ h => Or.inr h) (fun g H locs hs hw => ?_)
    have hg := sub_tr hg hs
    have hq_59 := hs _ hq_59
    refine lv_aload_n hx hb dX4_work_118 rfl (lv_at hl 1 rfl) ?_
    refine lv_dup hx hb dX4_work_119 rfl ?_
    refine cG_400 C in_4 hw.1 k_40 dX4_work_120 ?_
    refine lv_iload_n hx hb dX4_work_123 rfl (lv_at hl 0 rfl) ?_
    refine lv_aload_n hx hb dX4_work_124 rfl (lv_at hl 1 rfl) ?_
    refine cG_412 C in_4 hw.1 k_70 dX4_work_125 ?_
    refine lv_imul hx hb dX4_work_128 ?_
    refine lv_iadd hx hb dX4_work_129 ?_
    refine cPf_400 C in_4 hw k_40 dX4_work_130 (fun H locs hw => ?_)
    refine lv_aload_n hx hb dX4_work_133 rfl (lv_at hl 1 rfl) ?_
    refine cG_412 C in_4 hw.1 k_70 dX4_work_134 ?_
    refine W.widen (k := 2) (n := 8200) (by omega) (by omega) ?_
    exact W.iret hx hb hr (fun t ht hW => QC.of (by rw [← some_of h]) (by rw [← some_of h]; exact hw) hg ht hW) hw.2.2.2.2 dX4_work_137
def fR_rowOf (N : Nat) (σ : CSt) (x1 : Int32) (x2 : Int32) : Option (Int32) := (if x1 < 0 then some (-1 : Int32) else (if (σ.1 412) ≤ x1 then some (-1 : Int32) else (if (Int32.ofNat (σ.2.2.2.2.2 402)) ≤ x1 then some (-1 : Int32) else (if x2 < 0 then some (-1 : Int32) else (if x2 < (4 : Int32) then (if (((σ.1 411) >>> (x2 &&& 31)) &&& (1 : Int32)) = 0 then some (-1 : Int32) else chk x1 (σ.2.2.2.2.2 402) ((fQ_rowIn N (σ.2.2.1 402 x1.toNatClampNeg) x2).bind fun r_54 => some r_54)) else some (-1 : Int32))))))
set_option maxRecDepth 100000 in
set_option maxHeartbeats 4000000 in
theorem cR_rowOf {l : Launch} {D : va_G} {κ : Nat → ClassId} {ρ : Nat → Nat} {g : Gh} {N : Nat} {σ : CSt} {x1 : Int32} {x2 : Int32} {r : Int32} (h : fR_rowOf N σ x1 x2 = some r) : Met l yX4_rowOf wsX4_rowOf ({ frames := 1, cells := 0, slots := 0, locals := 21 } : Room) (va_Pc [.ref (ρ 499), .int x1, .int x2] (PRC D κ ρ g σ)) (PU (some (.int r))) 0 0 (fun _ => False) := by
  refine cMetR (ret := (some .int)) (by decide) rfl rfl (Nat.le_of_ble_eq_true rfl) ?_
  intro p e s m below meth c ls C hr hlk hw hl
  have hl : lv_has ls 3 [(0, .ref (ρ 499)), (1, .int x1), (2, .int x2)] := hl
  unfold fR_rowOf at h
  have hx := C.1
  have hb := C.2.1
  have hts := C.2.2.2.2
  have hown := C.2.2.2.1
  have k_9 := hts (.fieldLink RX4 9 "PlanCabinet$Runner" "stack" "[I") (by decide +kernel)
  have k_67 := hts (.fieldLink RX4 67 "PlanCabinet$Runner" "resultSet" "I") (by decide +kernel)
  have k_70 := hts (.fieldLink RX4 70 "PlanCabinet$Runner" "resultCount" "I") (by decide +kernel)
  have in_4 : ∀ w ∈ wsX40, w ∈ wsX4_rowOf := by decide +kernel
  refine lv_iload_n hx hb dX4_rowOf_0 rfl (lv_at hl 1 rfl) ?_
  refine lv_if_lt (tgt := 30) hx hb dX4_rowOf_1 (by decide) (fun c_1 => ?_) (fun c_1 => ?_)
  · have h := zz_pos c_1 h
    refine lv_iconst (v := (-1 : Int32)) hx hb dX4_rowOf_30 (by decide) ?_
    exact W.iret hx hb hr (fun t ht hW => ⟨by rw [some_of h], ht⟩) (fun _ h => by cases h) dX4_rowOf_31
  · have h := zz_neg c_1 h
    refine lv_iload_n hx hb dX4_rowOf_4 rfl (lv_at hl 1 rfl) ?_
    refine lv_aload_n hx hb dX4_rowOf_5 rfl (lv_at hl 0 rfl) ?_
    refine cG_412 C in_4 hw k_70 dX4_rowOf_6 ?_
    refine lv_icmp_ge (tgt := 30) hx hb dX4_rowOf_9 (by decide) (fun c_9 => ?_) (fun c_9 => ?_)
    · have h := zz_pos c_9 h
      refine lv_iconst (v := (-1 : Int32)) hx hb dX4_rowOf_30 (by decide) ?_
      exact W.iret hx hb hr (fun t ht hW => ⟨by rw [some_of h], ht⟩) (fun _ h => by cases h) dX4_rowOf_31
    · have h := zz_neg c_9 h
      refine lv_iload_n hx hb dX4_rowOf_12 rfl (lv_at hl 1 rfl) ?_
      refine lv_aload_n hx hb dX4_rowOf_13 rfl (lv_at hl 0 rfl) ?_
      refine cG_402 C in_4 hw k_9 dX4_rowOf_14 ?_
      refine cLen_402 C hw dX4_rowOf_17 ?_
      refine lv_icmp_ge (tgt := 30) hx hb dX4_rowOf_18 (by decide) (fun c_18 => ?_) (fun c_18 => ?_)
      · have h := zz_pos c_18 h
        refine lv_iconst (v := (-1 : Int32)) hx hb dX4_rowOf_30 (by decide) ?_
        exact W.iret hx hb hr (fun t ht hW => ⟨by rw [some_of h], ht⟩) (fun _ h => by cases h) dX4_rowOf_31
      · have h := zz_neg c_18 h
        refine lv_iload_n hx hb dX4_rowOf_21 rfl (lv_at hl 2 rfl) ?_
        refine lv_if_lt (tgt := 30) hx hb dX4_rowOf_22 (by decide) (fun c_22 => ?_) (fun c_22 => ?_)
        · have h := zz_pos c_22 h
          refine lv_iconst (v := (-1 : Int32)) hx hb dX4_rowOf_30 (by decide) ?_
          exact W.iret hx hb hr (fun t ht hW => ⟨by rw [some_of h], ht⟩) (fun _ h => by cases h) dX4_rowOf_31
        · have h := zz_neg c_22 h
          refine lv_iload_n hx hb dX4_rowOf_25 rfl (lv_at hl 2 rfl) ?_
          refine lv_iconst (v := (4 : Int32)) hx hb dX4_rowOf_26 (by decide) ?_
          refine lv_icmp_lt (tgt := 32) hx hb dX4_rowOf_27 (by decide) (fun c_27 => ?_) (fun c_27 => ?_)
          · have h := zz_pos c_27 h
            refine lv_aload_n hx hb dX4_rowOf_32 rfl (lv_at hl 0 rfl) ?_
            refine cG_411 C in_4 hw k_67 dX4_rowOf_33 ?_
            refine lv_iload_n hx hb dX4_rowOf_36 rfl (lv_at hl 2 rfl) ?_
            refine lv_ishr hx hb dX4_rowOf_37 ?_
            refine lv_iconst (v := (1 : Int32)) hx hb dX4_rowOf_38 (by decide) ?_
            refine lv_iand hx hb dX4_rowOf_39 ?_
            refine lv_if_ne (tgt := 47) hx hb dX4_rowOf_40 (by decide) (fun c_40 => ?_) (fun c_40 => ?_)
            · have h := zz_neg c_40 h
              refine lv_aload_n hx hb dX4_rowOf_47 rfl (lv_at hl 0 rfl) ?_
              refine cG_402 C in_4 hw k_9 dX4_rowOf_48 ?_
              refine lv_iload_n hx hb dX4_rowOf_51 rfl (lv_at hl 1 rfl) ?_
              obtain ⟨b_52, h⟩ := chk_of h
              refine cL_402 C hw b_52 dX4_rowOf_52 ?_
              refine lv_iload_n hx hb dX4_rowOf_53 rfl (lv_at hl 2 rfl) ?_
              obtain ⟨r_54, e_54, h⟩ := bnd_of h
              refine callP (W.runS (As := [.int (σ.2.2.1 402 x1.toNatClampNeg), .int x2]) C (cQ_rowIn e_54) (va_cwS 2 hts gX4_rowOf_X3_rowIn rfl rfl rfl (by decide +kernel) ⟨by decide, by decide⟩) preT rfl rfl hl.1 rfl (lv_room (Nat.le_of_ble_eq_true rfl)) dX4_rowOf_54 ⟨Nat.zero_le _, Nat.zero_le _⟩) ?_
              exact W.iret hx hb hr (fun t ht hW => ⟨by rw [some_of h], ht⟩) (fun _ h => by cases h) dX4_rowOf_57
            · have h := zz_pos c_40 h
              refine lv_iconst (v := (-1 : Int32)) hx hb dX4_rowOf_43 (by decide) ?_
              refine lv_goto (tgt := 57) hx hb dX4_rowOf_44 (by decide) ?_
              exact W.iret hx hb hr (fun t ht hW => ⟨by rw [some_of h], ht⟩) (fun _ h => by cases h) dX4_rowOf_57
          · have h := zz_neg c_27 h
            refine lv_iconst (v := (-1 : Int32)) hx hb dX4_rowOf_30 (by decide) ?_
            exact W.iret hx hb hr (fun t ht hW => ⟨by rw [some_of h], ht⟩) (fun _ h => by cases h) dX4_rowOf_31
