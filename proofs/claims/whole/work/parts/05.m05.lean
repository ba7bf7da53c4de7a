/-! the reference: steps, out, holds, count -/
def fM_steps (N : Nat) (σ : MSt) : Option (Int32) := some (σ.1 37)
set_option maxRecDepth 100000 in
set_option maxHeartbeats 4000000 in
theorem cM_steps {l : Launch} {D : va_G} {κ : Nat → ClassId} {ρ : Nat → Nat} {N : Nat} {σ : MSt} {r : Int32} (h : fM_steps N σ = some r) : Met l yX7_steps wsX7_steps ({ frames := 0, cells := 0, slots := 0, locals := 0 } : Room) (va_Pc [.ref (ρ 40)] (PR D κ ρ σ)) (PU (some (.int r))) 0 0 (fun _ => False) := by
  refine mMetR (ret := (some .int)) (by decide) rfl rfl (Nat.le_of_ble_eq_true rfl) ?_
  intro p e s m below meth c ls C hr hlk hP hl
  have hl : lv_has ls 1 [(0, .ref (ρ 40))] := hl
  unfold fM_steps at h
  have hx := C.1.1
  have hb := C.1.2.1
  have hts := C.1.2.2.2.2
  have hown := C.1.2.2.2.1
  have k_127 := hts (.fieldLink RX7 127 "PlanCabinetModel" "steps" "I") (by decide +kernel)
  have in_7 : ∀ w ∈ wsX70, w ∈ wsX7_steps := by decide +kernel
  refine lv_aload_n hx hb dX7_steps_0 rfl (lv_at hl 0 rfl) ?_
  refine mG_37 C in_7 hP k_127 dX7_steps_1 ?_
  exact W.iret hx hb hr (fun t ht hW => ⟨by rw [some_of h], ht⟩) (fun _ h => by cases h) dX7_steps_4
def fM_out (N : Nat) (σ : MSt) (x1 : Int32) (x2 : Int32) : Option (Int32) := (if x1 < 0 then some (-1 : Int32) else (if (σ.1 38) ≤ x1 then some (-1 : Int32) else (if x2 < 0 then some (-1 : Int32) else (if x2 ≤ (3 : Int32) then chk (((4 : Int32) * x1) + x2) 82944 (some (σ.2.2.1 39 (((4 : Int32) * x1) + x2).toNatClampNeg)) else some (-1 : Int32)))))
set_option maxRecDepth 100000 in
set_option maxHeartbeats 4000000 in
theorem cM_out {l : Launch} {D : va_G} {κ : Nat → ClassId} {ρ : Nat → Nat} {N : Nat} {σ : MSt} {x1 : Int32} {x2 : Int32} {r : Int32} (h : fM_out N σ x1 x2 = some r) : Met l yX7_out wsX7_out ({ frames := 0, cells := 0, slots := 0, locals := 0 } : Room) (va_Pc [.ref (ρ 40), .int x1, .int x2] (PR D κ ρ σ)) (PU (some (.int r))) 0 0 (fun _ => False) := by
  refine mMetR (ret := (some .int)) (by decide) rfl rfl (Nat.le_of_ble_eq_true rfl) ?_
  intro p e s m below meth c ls C hr hlk hP hl
  have hl : lv_has ls 3 [(0, .ref (ρ 40)), (1, .int x1), (2, .int x2)] := hl
  unfold fM_out at h
  have hx := C.1.1
  have hb := C.1.2.1
  have hts := C.1.2.2.2.2
  have hown := C.1.2.2.2.1
  have k_130 := hts (.fieldLink RX7 130 "PlanCabinetModel" "outs" "I") (by decide +kernel)
  have k_133 := hts (.fieldLink RX7 133 "PlanCabinetModel" "outRow" "[I") (by decide +kernel)
  have in_7 : ∀ w ∈ wsX70, w ∈ wsX7_out := by decide +kernel
  refine lv_iload_n hx hb dX7_out_0 rfl (lv_at hl 1 rfl) ?_
  refine lv_if_lt (tgt := 21) hx hb dX7_out_1 (by decide) (fun c_1 => ?_) (fun c_1 => ?_)
  · have h := zz_pos c_1 h
    refine lv_iconst (v := (-1 : Int32)) hx hb dX7_out_21 (by decide) ?_
    refine lv_goto (tgt := 35) hx hb dX7_out_22 (by decide) ?_
    exact W.iret hx hb hr (fun t ht hW => ⟨by rw [some_of h], ht⟩) (fun _ h => by cases h) dX7_out_35
  · have h := zz_neg c_1 h
    refine lv_iload_n hx hb dX7_out_4 rfl (lv_at hl 1 rfl) ?_
    refine lv_aload_n hx hb dX7_out_5 rfl (lv_at hl 0 rfl) ?_
    refine mG_38 C in_7 hP k_130 dX7_out_6 ?_
    refine lv_icmp_ge (tgt := 21) hx hb dX7_out_9 (by decide) (fun c_9 => ?_) (fun c_9 => ?_)
    · have h := zz_pos c_9 h
      refine lv_iconst (v := (-1 : Int32)) hx hb dX7_out_21 (by decide) ?_
      refine lv_goto (tgt := 35) hx hb dX7_out_22 (by decide) ?_
      exact W.iret hx hb hr (fun t ht hW => ⟨by rw [some_of h], ht⟩) (fun _ h => by cases h) dX7_out_35
    · have h := zz_neg c_9 h
      refine lv_iload_n hx hb dX7_out_12 rfl (lv_at hl 2 rfl) ?_
      refine lv_if_lt (tgt := 21) hx hb dX7_out_13 (by decide) (fun c_13 => ?_) (fun c_13 => ?_)
      · have h := zz_pos c_13 h
        refine lv_iconst (v := (-1 : Int32)) hx hb dX7_out_21 (by decide) ?_
        refine lv_goto (tgt := 35) hx hb dX7_out_22 (by decide) ?_
        exact W.iret hx hb hr (fun t ht hW => ⟨by rw [some_of h], ht⟩) (fun _ h => by cases h) dX7_out_35
      · have h := zz_neg c_13 h
        refine lv_iload_n hx hb dX7_out_16 rfl (lv_at hl 2 rfl) ?_
        refine lv_iconst (v := (3 : Int32)) hx hb dX7_out_17 (by decide) ?_
        refine lv_icmp_le (tgt := 25) hx hb dX7_out_18 (by decide) (fun c_18 => ?_) (fun c_18 => ?_)
        · have h := zz_pos c_18 h
          refine lv_aload_n hx hb dX7_out_25 rfl (lv_at hl 0 rfl) ?_
          refine mG_39 C in_7 hP k_133 dX7_out_26 ?_
          refine lv_iconst (v := (4 : Int32)) hx hb dX7_out_29 (by decide) ?_
          refine lv_iload_n hx hb dX7_out_30 rfl (lv_at hl 1 rfl) ?_
          refine lv_imul hx hb dX7_out_31 ?_
          refine lv_iload_n hx hb dX7_out_32 rfl (lv_at hl 2 rfl) ?_
          refine lv_iadd hx hb dX7_out_33 ?_
          obtain ⟨b_34, h⟩ := chk_of h
          refine mL_39 C hP b_34 dX7_out_34 ?_
          exact W.iret hx hb hr (fun t ht hW => ⟨by rw [some_of h], ht⟩) (fun _ h => by cases h) dX7_out_35
        · have h := zz_neg c_18 h
          refine lv_iconst (v := (-1 : Int32)) hx hb dX7_out_21 (by decide) ?_
          refine lv_goto (tgt := 35) hx hb dX7_out_22 (by decide) ?_
          exact W.iret hx hb hr (fun t ht hW => ⟨by rw [some_of h], ht⟩) (fun _ h => by cases h) dX7_out_35
def fM_holds_L36 (N : Nat) (σ : MSt) (K104 : Int32 → Int32 → Int32 → Option (Int32)) : Nat → Int32 → Int32 → Int32 → Int32 → Option (Int32)
  | 0, _, _, _, _ => none
  | n + 1, x1, x2, x3, x4 => chk x1 4 (chk (σ.2.2.1 8 x1.toNatClampNeg) 4 ((if (σ.2.2.1 4 (σ.2.2.1 8 x1.toNatClampNeg).toNatClampNeg) ≤ x4 then K104 x1 x2 x3 else chk x1 4 (chk x1 4 ((fM_of N σ (σ.2.2.1 6 x1.toNatClampNeg) x3 (σ.2.2.1 7 x1.toNatClampNeg)).bind fun r_67 => chk x1 4 (chk x1 4 ((fM_of N σ (σ.2.2.1 8 x1.toNatClampNeg) x4 (σ.2.2.1 9 x1.toNatClampNeg)).bind fun r_85 => (if r_67 = r_85 then fM_holds_L36 N σ K104 n x1 (x2 + (1 : Int32)) x3 (x4 + 1) else fM_holds_L36 N σ K104 n x1 (x2 + (0 : Int32)) x3 (x4 + 1)))))))))
def fM_holds_L18 (N : Nat) (σ : MSt) : Nat → Int32 → Int32 → Int32 → Option (Int32)
  | 0, _, _, _ => none
  | n + 1, x1, x2, x3 => chk x1 4 (chk (σ.2.2.1 6 x1.toNatClampNeg) 4 ((if (σ.2.2.1 4 (σ.2.2.1 6 x1.toNatClampNeg).toNatClampNeg) ≤ x3 then some x2 else fM_holds_L36 N σ (fun (x1 : Int32) (x2 : Int32) (x3 : Int32) => fM_holds_L18 N σ n x1 x2 (x3 + 1)) N x1 x2 x3 (0 : Int32))))
def fM_holds (N : Nat) (σ : MSt) (x1 : Int32) : Option (Int32) := (if x1 < 0 then some (-1 : Int32) else (if x1 < (σ.1 1) then fM_holds_L18 N σ N x1 (0 : Int32) (0 : Int32) else some (-1 : Int32)))
set_option maxRecDepth 100000 in
set_option maxHeartbeats 4000000 in
theorem wM_holds_L36 {p : Program} {l : Launch} {e : Env} {s : State} {m : MethodId} {args : Array Value} {below : List Frame} {meth : Method} {c : Code} {D : va_G} {κ : Nat → ClassId} {ρ : Nat → Nat} {σ : MSt} (C : MC p m c cX7_holds 5 s args wsX7_holds D κ) (hr : meth.sig.returnType = (some .int)) (hlk : meth.locks = false) (hP : va_P D vwCl (cellsM κ ρ σ) s.heap) {N : Nat} {r : Int32} {K104 : Int32 → Int32 → Int32 → Option (Int32)} : ∀ (n : Nat) (x1 : Int32) (x2 : Int32) (x3 : Int32) (x4 : Int32) (ls : Array Slot), fM_holds_L36 N σ K104 n x1 x2 x3 x4 = some r → lv_has ls 5 [(0, .ref (ρ 40)), (1, .int x1), (2, .int x2), (3, .int x3), (4, .int x4)] → (∀ (x1 : Int32) (x2 : Int32) (x3 : Int32) (ls : Array Slot), K104 x1 x2 x3 = some r → lv_has ls 5 [(0, .ref (ρ 40)), (1, .int x1), (2, .int x2), (3, .int x3)] → W p l e ({ frames := 1, cells := 0, slots := 0, locals := 23 } : Room) s m args below meth c s.heap [] 0 0 (MQ below (PU (some (.int r))) args s 0 0 (fun _ => False)) (F0 m 104 ls [])) → W p l e ({ frames := 1, cells := 0, slots := 0, locals := 23 } : Room) s m args below meth c s.heap [] 0 0 (MQ below (PU (some (.int r))) args s 0 0 (fun _ => False)) (F0 m 36 ls []) := by
  have hx := C.1.1
  have hb := C.1.2.1
  have hts := C.1.2.2.2.2
  have hown := C.1.2.2.2.1
  have k_22 := hts (.fieldLink RX7 22 "PlanCabinetModel" "rows" "[I") (by decide +kernel)
  have k_29 := hts (.fieldLink RX7 29 "PlanCabinetModel" "pairT" "[I") (by decide +kernel)
  have k_32 := hts (.fieldLink RX7 32 "PlanCabinetModel" "pairC" "[I") (by decide +kernel)
  have k_35 := hts (.fieldLink RX7 35 "PlanCabinetModel" "pairU" "[I") (by decide +kernel)
  have k_38 := hts (.fieldLink RX7 38 "PlanCabinetModel" "pairO" "[I") (by decide +kernel)
  have in_7 : ∀ w ∈ wsX70, w ∈ wsX7_holds := by decide +kernel
  intro n
  induction n with
  | zero =>
    intro x1 x2 x3 x4 ls h hl hK104
    rw [fM_holds_L36] at h
    cases h
  | succ n ih =>
    intro x1 x2 x3 x4 ls h hl hK104
    rw [fM_holds_L36] at h
    refine lv_iload hx hb dX7_holds_36 (lv_at hl 4 rfl) ?_
    refine lv_aload_n hx hb dX7_holds_38 rfl (lv_at hl 0 rfl) ?_
    refine mG_4 C in_7 hP k_22 dX7_holds_39 ?_
    refine lv_aload_n hx hb dX7_holds_42 rfl (lv_at hl 0 rfl) ?_
    refine mG_8 C in_7 hP k_35 dX7_holds_43 ?_
    refine lv_iload_n hx hb dX7_holds_46 rfl (lv_at hl 1 rfl) ?_
    obtain ⟨b_47, h⟩ := chk_of h
    refine mL_8 C hP b_47 dX7_holds_47 ?_
    obtain ⟨b_48, h⟩ := chk_of h
    refine mL_4 C hP b_48 dX7_holds_48 ?_
    refine lv_icmp_ge (tgt := 104) hx hb dX7_holds_49 (by decide) (fun c_49 => ?_) (fun c_49 => ?_)
    · have h := zz_pos c_49 h
      exact hK104 _ _ _ _ h (lv_sub hl [0, 1, 2, 3] rfl)
    · have h := zz_neg c_49 h
      refine lv_iload_n hx hb dX7_holds_52 rfl (lv_at hl 2 rfl) ?_
      refine lv_aload_n hx hb dX7_holds_53 rfl (lv_at hl 0 rfl) ?_
      refine lv_aload_n hx hb dX7_holds_54 rfl (lv_at hl 0 rfl) ?_
      refine mG_6 C in_7 hP k_29 dX7_holds_55 ?_
      refine lv_iload_n hx hb dX7_holds_58 rfl (lv_at hl 1 rfl) ?_
      obtain ⟨b_59, h⟩ := chk_of h
      refine mL_6 C hP b_59 dX7_holds_59 ?_
      refine lv_iload_n hx hb dX7_holds_60 rfl (lv_at hl 3 rfl) ?_
      refine lv_aload_n hx hb dX7_holds_61 rfl (lv_at hl 0 rfl) ?_
      refine mG_7 C in_7 hP k_32 dX7_holds_62 ?_
      refine lv_iload_n hx hb dX7_holds_65 rfl (lv_at hl 1 rfl) ?_
      obtain ⟨b_66, h⟩ := chk_of h
      refine mL_7 C hP b_66 dX7_holds_66 ?_
      obtain ⟨r_67, e_67, h⟩ := bnd_of h
      refine callP (W.runV (As := [.int (σ.2.2.1 6 x1.toNatClampNeg), .int x3, .int (σ.2.2.1 7 x1.toNatClampNeg)]) C.1 (cM_of e_67) (cwV 3 hts gX7_holds_X7_of rfl rfl rfl (by decide +kernel) ⟨by decide, by decide⟩) (mPreR C.2 hP _) rfl rfl hl.1 rfl (lv_room (Nat.le_of_ble_eq_true rfl)) dX7_holds_67 ⟨Nat.zero_le _, Nat.zero_le _⟩) ?_
      refine lv_aload_n hx hb dX7_holds_70 rfl (lv_at hl 0 rfl) ?_
      refine lv_aload_n hx hb dX7_holds_71 rfl (lv_at hl 0 rfl) ?_
      refine mG_8 C in_7 hP k_35 dX7_holds_72 ?_
      refine lv_iload_n hx hb dX7_holds_75 rfl (lv_at hl 1 rfl) ?_
      obtain ⟨b_76, h⟩ := chk_of h
      refine mL_8 C hP b_76 dX7_holds_76 ?_
      refine lv_iload hx hb dX7_holds_77 (lv_at hl 4 rfl) ?_
      refine lv_aload_n hx hb dX7_holds_79 rfl (lv_at hl 0 rfl) ?_
      refine mG_9 C in_7 hP k_38 dX7_holds_80 ?_
      refine lv_iload_n hx hb dX7_holds_83 rfl (lv_at hl 1 rfl) ?_
      obtain ⟨b_84, h⟩ := chk_of h
      refine mL_9 C hP b_84 dX7_holds_84 ?_
      obtain ⟨r_85, e_85, h⟩ := bnd_of h
      refine callP (W.runV (As := [.int (σ.2.2.1 8 x1.toNatClampNeg), .int x4, .int (σ.2.2.1 9 x1.toNatClampNeg)]) C.1 (cM_of e_85) (cwV 3 hts gX7_holds_X7_of rfl rfl rfl (by decide +kernel) ⟨by decide, by decide⟩) (mPreR C.2 hP _) rfl rfl hl.1 rfl (lv_room (Nat.le_of_ble_eq_true rfl)) dX7_holds_85 ⟨Nat.zero_le _, Nat.zero_le _⟩) ?_
      refine lv_icmp_ne (tgt := 95) hx hb dX7_holds_88 (by decide) (fun c_88 => ?_) (fun c_88 => ?_)
      · have h := zz_neg c_88 h
        refine lv_iconst (v := (0 : Int32)) hx hb dX7_holds_95 (by decide) ?_
        refine lv_iadd hx hb dX7_holds_96 ?_
        refine lv_istore_n (lv' := [(2, .int (x2 + (0 : Int32))), (0, .ref (ρ 40)), (1, .int x1), (3, .int x3), (4, .int x4)]) hx hb dX7_holds_97 rfl hl (by decide) rfl (fun ls hl => ?_)
        refine lv_iinc (v := (x4 + 1)) (lv' := [(4, .int (x4 + 1)), (2, .int (x2 + (0 : Int32))), (0, .ref (ρ 40)), (1, .int x1), (3, .int x3)]) hx hb dX7_holds_98 hl (k := 4) rfl rfl (by decide) rfl (fun ls hl => ?_)
        refine lv_goto (tgt := 36) hx hb dX7_holds_101 (by decide) ?_
        exact ih _ _ _ _ _ h (lv_sub hl [2, 3, 1, 4, 0] rfl) hK104
      · have h := zz_pos c_88 h
        refine lv_iconst (v := (1 : Int32)) hx hb dX7_holds_91 (by decide) ?_
        refine lv_goto (tgt := 96) hx hb dX7_holds_92 (by decide) ?_
        refine lv_iadd hx hb dX7_holds_96 ?_
        refine lv_istore_n (lv' := [(2, .int (x2 + (1 : Int32))), (0, .ref (ρ 40)), (1, .int x1), (3, .int x3), (4, .int x4)]) hx hb dX7_holds_97 rfl hl (by decide) rfl (fun ls hl => ?_)
        refine lv_iinc (v := (x4 + 1)) (lv' := [(4, .int (x4 + 1)), (2, .int (x2 + (1 : Int32))), (0, .ref (ρ 40)), (1, .int x1), (3, .int x3)]) hx hb dX7_holds_98 hl (k := 4) rfl rfl (by decide) rfl (fun ls hl => ?_)
        refine lv_goto (tgt := 36) hx hb dX7_holds_101 (by decide) ?_
        exact ih _ _ _ _ _ h (lv_sub hl [2, 3, 1, 4, 0] rfl) hK104
set_option maxRecDepth 100000 in
set_option maxHeartbeats 4000000 in
theorem wM_holds_L18 {p : Program} {l : Launch} {e : Env} {s : State} {m : MethodId} {args : Array Value} {below : List Frame} {meth : Method} {c : Code} {D : va_G} {κ : Nat → ClassId} {ρ : Nat → Nat} {σ : MSt} (C : MC p m c cX7_holds 5 s args wsX7_holds D κ) (hr : meth.sig.returnType = (some .int)) (hlk : meth.locks = false) (hP : va_P D vwCl (cellsM κ ρ σ) s.heap) {N : Nat} {r : Int32} : ∀ (n : Nat) (x1 : Int32) (x2 : Int32) (x3 : Int32) (ls : Array Slot), fM_holds_L18 N σ n x1 x2 x3 = some r → lv_has ls 5 [(0, .ref (ρ 40)), (1, .int x1), (2, .int x2), (3, .int x3)] → W p l e ({ frames := 1, cells := 0, slots := 0, locals := 23 } : Room) s m args below meth c s.heap [] 0 0 (MQ below (PU (some (.int r))) args s 0 0 (fun _ => False)) (F0 m 18 ls []) := by
  have hx := C.1.1
  have hb := C.1.2.1
  have hts := C.1.2.2.2.2
  have hown := C.1.2.2.2.1
  have k_22 := hts (.fieldLink RX7 22 "PlanCabinetModel" "rows" "[I") (by decide +kernel)
  have k_29 := hts (.fieldLink RX7 29 "PlanCabinetModel" "pairT" "[I") (by decide +kernel)
  have in_7 : ∀ w ∈ wsX70, w ∈ wsX7_holds := by decide +kernel
  intro n
  induction n with
  | zero =>
    intro x1 x2 x3 ls h hl
    rw [fM_holds_L18] at h
    cases h
  | succ n ih =>
    intro x1 x2 x3 ls h hl
    rw [fM_holds_L18] at h
    refine lv_iload_n hx hb dX7_holds_18 rfl (lv_at hl 3 rfl) ?_
    refine lv_aload_n hx hb dX7_holds_19 rfl (lv_at hl 0 rfl) ?_
    refine mG_4 C in_7 hP k_22 dX7_holds_20 ?_
    refine lv_aload_n hx hb dX7_holds_23 rfl (lv_at hl 0 rfl) ?_
    refine mG_6 C in_7 hP k_29 dX7_holds_24 ?_
    refine lv_iload_n hx hb dX7_holds_27 rfl (lv_at hl 1 rfl) ?_
    obtain ⟨b_28, h⟩ := chk_of h
    refine mL_6 C hP b_28 dX7_holds_28 ?_
    obtain ⟨b_29, h⟩ := chk_of h
    refine mL_4 C hP b_29 dX7_holds_29 ?_
    refine lv_icmp_ge (tgt := 110) hx hb dX7_holds_30 (by decide) (fun c_30 => ?_) (fun c_30 => ?_)
    · have h := zz_pos c_30 h
      refine lv_iload_n hx hb dX7_holds_110 rfl (lv_at hl 2 rfl) ?_
      exact W.iret hx hb hr (fun t ht hW => ⟨by rw [some_of h], ht⟩) (fun _ h => by cases h) dX7_holds_111
    · have h := zz_neg c_30 h
      refine lv_iconst (v := (0 : Int32)) hx hb dX7_holds_33 (by decide) ?_
      refine lv_istore (lv' := [(4, .int (0 : Int32)), (0, .ref (ρ 40)), (1, .int x1), (2, .int x2), (3, .int x3)]) hx hb dX7_holds_34 hl (by decide) rfl (fun ls hl => ?_)
      refine wM_holds_L36 C hr hlk hP _ _ _ _ _ _ h (lv_sub hl [1, 2, 3, 4, 0] rfl) ?_
      intro x1 x2 x3 ls h hl
      refine lv_iinc (v := (x3 + 1)) (lv' := [(3, .int (x3 + 1)), (0, .ref (ρ 40)), (1, .int x1), (2, .int x2)]) hx hb dX7_holds_104 hl (k := 3) rfl rfl (by decide) rfl (fun ls hl => ?_)
      refine lv_goto (tgt := 18) hx hb dX7_holds_107 (by decide) ?_
      exact ih _ _ _ _ h (lv_sub hl [1, 2, 3, 0] rfl)
set_option maxRecDepth 100000 in
set_option maxHeartbeats 4000000 in
theorem cM_holds {l : Launch} {D : va_G} {κ : Nat → ClassId} {ρ : Nat → Nat} {N : Nat} {σ : MSt} {x1 : Int32} {r : Int32} (h : fM_holds N σ x1 = some r) : Met l yX7_holds wsX7_holds ({ frames := 1, cells := 0, slots := 0, locals := 23 } : Room) (va_Pc [.ref (ρ 40), .int x1] (PR D κ ρ σ)) (PU (some (.int r))) 0 0 (fun _ => False) := by
  refine mMetR (ret := (some .int)) (by decide) rfl rfl (Nat.le_of_ble_eq_true rfl) ?_
  intro p e s m below meth c ls C hr hlk hP hl
  have hl : lv_has ls 5 [(0, .ref (ρ 40)), (1, .int x1)] := hl
  unfold fM_holds at h
  have hx := C.1.1
  have hb := C.1.2.1
  have hts := C.1.2.2.2.2
  have hown := C.1.2.2.2.1
  have k_13 := hts (.fieldLink RX7 13 "PlanCabinetModel" "pairings" "I") (by decide +kernel)
  have in_7 : ∀ w ∈ wsX70, w ∈ wsX7_holds := by decide +kernel
  refine lv_iload_n hx hb dX7_holds_0 rfl (lv_at hl 1 rfl) ?_
  refine lv_if_lt (tgt := 12) hx hb dX7_holds_1 (by decide) (fun c_1 => ?_) (fun c_1 => ?_)
  · have h := zz_pos c_1 h
    refine lv_iconst (v := (-1 : Int32)) hx hb dX7_holds_12 (by decide) ?_
    exact W.iret hx hb hr (fun t ht hW => ⟨by rw [some_of h], ht⟩) (fun _ h => by cases h) dX7_holds_13
  · have h := zz_neg c_1 h
    refine lv_iload_n hx hb dX7_holds_4 rfl (lv_at hl 1 rfl) ?_
    refine lv_aload_n hx hb dX7_holds_5 rfl (lv_at hl 0 rfl) ?_
    refine mG_1 C in_7 hP k_13 dX7_holds_6 ?_
    refine lv_icmp_lt (tgt := 14) hx hb dX7_holds_9 (by decide) (fun c_9 => ?_) (fun c_9 => ?_)
    · have h := zz_pos c_9 h
      refine lv_iconst (v := (0 : Int32)) hx hb dX7_holds_14 (by decide) ?_
      refine lv_istore_n (lv' := [(2, .int (0 : Int32)), (0, .ref (ρ 40)), (1, .int x1)]) hx hb dX7_holds_15 rfl hl (by decide) rfl (fun ls hl => ?_)
      refine lv_iconst (v := (0 : Int32)) hx hb dX7_holds_16 (by decide) ?_
      refine lv_istore_n (lv' := [(3, .int (0 : Int32)), (2, .int (0 : Int32)), (0, .ref (ρ 40)), (1, .int x1)]) hx hb dX7_holds_17 rfl hl (by decide) rfl (fun ls hl => ?_)
      exact wM_holds_L18 C hr hlk hP _ _ _ _ _ h (lv_sub hl [2, 3, 1, 0] rfl)
    · have h := zz_neg c_9 h
      refine lv_iconst (v := (-1 : Int32)) hx hb dX7_holds_12 (by decide) ?_
      exact W.iret hx hb hr (fun t ht hW => ⟨by rw [some_of h], ht⟩) (fun _ h => by cases h) dX7_holds_13
def fM_count_L51 (N : Nat) : Nat → MSt → Int32 → Int32 → Option (Int32 × MSt)
  | 0, _, _, _ => none
  | n + 1, σ, x2, x3 => (if (σ.1 0) ≤ x3 then some (x2, σ) else chk x3 4 (fM_count_L51 N n σ (x2 + (σ.2.2.1 4 x3.toNatClampNeg)) (x3 + 1)))
def fM_count (N : Nat) (σ : MSt) (x1 : Int32) : Option (Int32 × MSt) := (if x1 = (0 : Int32) then some ((σ.1 0), σ) else (if x1 = (1 : Int32) then fM_count_L51 N N σ (0 : Int32) (0 : Int32) else (if x1 = (2 : Int32) then some ((σ.1 1), σ) else (if x1 = (3 : Int32) then some ((σ.1 11), σ) else (if x1 = (4 : Int32) then (fM_open N σ).bind fun r_87 => some (r_87, σ) else (if x1 = (5 : Int32) then (fM_isWhole N σ).bind fun r_92 => (if r_92 = 0 then some ((0 : Int32), σ) else some ((1 : Int32), σ)) else (if x1 = (6 : Int32) then (fM_isWhole N σ).bind fun r_105 => (if r_105 = 0 then some ((0 : Int32), σ) else (fM_list N σ).bind fun r_114 => (fM_all N r_114).bind fun r_126 => chk r_126 17 (some (((r_114.1 22) - (r_114.2.2.1 16 r_126.toNatClampNeg)), r_114))) else some ((-1 : Int32), σ))))))))
set_option maxRecDepth 100000 in
set_option maxHeartbeats 4000000 in
theorem wM_count_L51 {p : Program} {l : Launch} {e : Env} {s : State} {m : MethodId} {args : Array Value} {below : List Frame} {meth : Method} {c : Code} {D : va_G} {κ : Nat → ClassId} {ρ : Nat → Nat} (C : MC p m c cX7_count 4 s args wsX7_count D κ) (hr : meth.sig.returnType = (some .int)) (hlk : meth.locks = false) (hD : DM (AM ρ s.heap.size) ρ) {N : Nat} {q : Int32 × MSt} : ∀ (n : Nat) (σ : MSt) (x2 : Int32) (x3 : Int32) (H : Heap) (locs : List Loc) (ls : Array Slot), fM_count_L51 N n σ x2 x3 = some q → va_P D vwCl (cellsM κ ρ σ) H → va_S (AM ρ s.heap.size) s.heap H locs → lv_has ls 4 [(0, .ref (ρ 40)), (2, .int x2), (3, .int x3)] → W p l e ({ frames := 5, cells := 0, slots := 0, locals := 117 } : Room) s m args below meth c H locs 0 0 (MQ below (QM D κ ρ s.heap.size q.2 (some (.int q.1))) args s 0 0 (AM ρ s.heap.size)) (F0 m 51 ls []) := by
  have hx := C.1.1
  have hb := C.1.2.1
  have hts := C.1.2.2.2.2
  have hown := C.1.2.2.2.1
  have k_7 := hts (.fieldLink RX7 7 "PlanCabinetModel" "tables" "I") (by decide +kernel)
  have k_22 := hts (.fieldLink RX7 22 "PlanCabinetModel" "rows" "[I") (by decide +kernel)
  have in_7 : ∀ w ∈ wsX70, w ∈ wsX7_count := by decide +kernel
  intro n
  induction n with
  | zero =>
    intro σ x2 x3 H locs ls h hP hS hl
    rw [fM_count_L51] at h
    cases h
  | succ n ih =>
    intro σ x2 x3 H locs ls h hP hS hl
    rw [fM_count_L51] at h
    refine lv_iload_n hx hb dX7_count_51 rfl (lv_at hl 2 rfl) ?_
    refine lv_aload_n hx hb dX7_count_52 rfl (lv_at hl 0 rfl) ?_
    refine mG_0 C in_7 hP k_7 dX7_count_53 ?_
    refine lv_icmp_ge (tgt := 74) hx hb dX7_count_56 (by decide) (fun c_56 => ?_) (fun c_56 => ?_)
    · have h := zz_pos c_56 h
      refine lv_iload_n hx hb dX7_count_74 rfl (lv_at hl 1 rfl) ?_
      exact W.iret hx hb hr (fun t ht hW => ⟨by rw [← some_of h], by rw [ht, ← some_of h]; exact hP, hS.F ht⟩) hS.2.2 dX7_count_75
    · have h := zz_neg c_56 h
      refine lv_iload_n hx hb dX7_count_59 rfl (lv_at hl 1 rfl) ?_
      refine lv_aload_n hx hb dX7_count_60 rfl (lv_at hl 0 rfl) ?_
      refine mG_4 C in_7 hP k_22 dX7_count_61 ?_
      refine lv_iload_n hx hb dX7_count_64 rfl (lv_at hl 2 rfl) ?_
      obtain ⟨b_65, h⟩ := chk_of h
      refine mL_4 C hP b_65 dX7_count_65 ?_
      refine lv_iadd hx hb dX7_count_66 ?_
      refine lv_istore_n (lv' := [(2, .int (x2 + (σ.2.2.1 4 x3.toNatClampNeg))), (0, .ref (ρ 40)), (3, .int x3)]) hx hb dX7_count_67 rfl hl (by decide) rfl (fun ls hl => ?_)
      refine lv_iinc (v := (x3 + 1)) (lv' := [(3, .int (x3 + 1)), (2, .int (x2 + (σ.2.2.1 4 x3.toNatClampNeg))), (0, .ref (ρ 40))]) hx hb dX7_count_68 hl (k := 2) rfl rfl (by decide) rfl (fun ls hl => ?_)
      refine lv_goto (tgt := 51) hx hb dX7_count_71 (by decide) ?_
      exact ih _ _ _ _ _ _ h hP hS (lv_sub hl [2, 1, 0] rfl)
set_option maxRecDepth 100000 in
set_option maxHeartbeats 4000000 in
theorem cM_count {l : Launch} {D : va_G} {κ : Nat → ClassId} {ρ : Nat → Nat} {sz : Nat} {N : Nat} {σ : MSt} {x1 : Int32} {q : Int32 × MSt} (h : fM_count N σ x1 = some q) : Met l yX7_count wsX7_count ({ frames := 5, cells := 0, slots := 0, locals := 117 } : Room) (va_Pc [.ref (ρ 40), .int x1] (PM D κ ρ sz σ)) (QM D κ ρ sz q.2 (some (.int q.1))) 0 0 (AM ρ sz) := by
  refine mMetM (ret := (some .int)) (by decide) rfl rfl (Nat.le_of_ble_eq_true rfl) ?_
  intro p e s m below meth c ls C hr hlk hD hP hl
  have hS : va_S (AM ρ s.heap.size) s.heap s.heap [] := va_S.rf
  have hl : lv_has ls 4 [(0, .ref (ρ 40)), (1, .int x1)] := hl
  unfold fM_count at h
  have hx := C.1.1
  have hb := C.1.2.1
  have hts := C.1.2.2.2.2
  have hown := C.1.2.2.2.1
  have k_7 := hts (.fieldLink RX7 7 "PlanCabinetModel" "tables" "I") (by decide +kernel)
  have k_13 := hts (.fieldLink RX7 13 "PlanCabinetModel" "pairings" "I") (by decide +kernel)
  have k_44 := hts (.fieldLink RX7 44 "PlanCabinetModel" "plans" "I") (by decide +kernel)
  have k_60 := hts (.fieldLink RX7 60 "PlanCabinetModel" "from" "[I") (by decide +kernel)
  have k_79 := hts (.fieldLink RX7 79 "PlanCabinetModel" "listed" "I") (by decide +kernel)
  have in_7 : ∀ w ∈ wsX70, w ∈ wsX7_count := by decide +kernel
  refine lv_iconst (v := (0 : Int32)) hx hb dX7_count_0 (by decide) ?_
  refine lv_istore_n (lv' := [(2, .int (0 : Int32)), (0, .ref (ρ 40)), (1, .int x1)]) hx hb dX7_count_1 rfl hl (by decide) rfl (fun ls hl => ?_)
  refine lv_iload_n hx hb dX7_count_2 rfl (lv_at hl 2 rfl) ?_
  by_cases c_3_0 : x1 = (0 : Int32)
  · have h := zz_pos c_3_0 h
    refine lv_tableIn (tgt := 44) (off := 41) hx hb dX7_count_3 (by rw [c_3_0]; decide) (by rw [c_3_0]; decide) (by rw [c_3_0]; rfl) (by decide) ?_
    refine lv_aload_n hx hb dX7_count_44 rfl (lv_at hl 1 rfl) ?_
    refine mG_0 C in_7 hP k_7 dX7_count_45 ?_
    exact W.iret hx hb hr (fun t ht hW => ⟨by rw [← some_of h], by rw [ht, ← some_of h]; exact hP, hS.F ht⟩) hS.2.2 dX7_count_48
  have h := zz_neg c_3_0 h
  by_cases c_3_1 : x1 = (1 : Int32)
  · have h := zz_pos c_3_1 h
    refine lv_tableIn (tgt := 49) (off := 46) hx hb dX7_count_3 (by rw [c_3_1]; decide) (by rw [c_3_1]; decide) (by rw [c_3_1]; rfl) (by decide) ?_
    refine lv_iconst (v := (0 : Int32)) hx hb dX7_count_49 (by decide) ?_
    refine lv_istore_n (lv' := [(3, .int (0 : Int32)), (2, .int (0 : Int32)), (0, .ref (ρ 40)), (1, .int x1)]) hx hb dX7_count_50 rfl hl (by decide) rfl (fun ls hl => ?_)
    exact wM_count_L51 C hr hlk hD _ _ _ _ _ _ _ h hP hS (lv_sub hl [2, 1, 0] rfl)
  have h := zz_neg c_3_1 h
  by_cases c_3_2 : x1 = (2 : Int32)
  · have h := zz_pos c_3_2 h
    refine lv_tableIn (tgt := 76) (off := 73) hx hb dX7_count_3 (by rw [c_3_2]; decide) (by rw [c_3_2]; decide) (by rw [c_3_2]; rfl) (by decide) ?_
    refine lv_aload_n hx hb dX7_count_76 rfl (lv_at hl 1 rfl) ?_
    refine mG_1 C in_7 hP k_13 dX7_count_77 ?_
    exact W.iret hx hb hr (fun t ht hW => ⟨by rw [← some_of h], by rw [ht, ← some_of h]; exact hP, hS.F ht⟩) hS.2.2 dX7_count_80
  have h := zz_neg c_3_2 h
  by_cases c_3_3 : x1 = (3 : Int32)
  · have h := zz_pos c_3_3 h
    refine lv_tableIn (tgt := 81) (off := 78) hx hb dX7_count_3 (by rw [c_3_3]; decide) (by rw [c_3_3]; decide) (by rw [c_3_3]; rfl) (by decide) ?_
    refine lv_aload_n hx hb dX7_count_81 rfl (lv_at hl 1 rfl) ?_
    refine mG_11 C in_7 hP k_44 dX7_count_82 ?_
    exact W.iret hx hb hr (fun t ht hW => ⟨by rw [← some_of h], by rw [ht, ← some_of h]; exact hP, hS.F ht⟩) hS.2.2 dX7_count_85
  have h := zz_neg c_3_3 h
  by_cases c_3_4 : x1 = (4 : Int32)
  · have h := zz_pos c_3_4 h
    refine lv_tableIn (tgt := 86) (off := 83) hx hb dX7_count_3 (by rw [c_3_4]; decide) (by rw [c_3_4]; decide) (by rw [c_3_4]; rfl) (by decide) ?_
    refine lv_aload_n hx hb dX7_count_86 rfl (lv_at hl 1 rfl) ?_
    obtain ⟨r_87, e_87, h⟩ := bnd_of h
    refine callP (W.runV (As := []) C.1 (cM_open e_87) (cwV 0 hts gX7_count_X7_open rfl rfl rfl (by decide +kernel) ⟨by decide, by decide⟩) (mPreR C.2 hP _) rfl rfl hl.1 rfl (lv_room (Nat.le_of_ble_eq_true rfl)) dX7_count_87 ⟨Nat.zero_le _, Nat.zero_le _⟩) ?_
    exact W.iret hx hb hr (fun t ht hW => ⟨by rw [← some_of h], by rw [ht, ← some_of h]; exact hP, hS.F ht⟩) hS.2.2 dX7_count_90
  have h := zz_neg c_3_4 h
  by_cases c_3_5 : x1 = (5 : Int32)
  · have h := zz_pos c_3_5 h
    refine lv_tableIn (tgt := 91) (off := 88) hx hb dX7_count_3 (by rw [c_3_5]; decide) (by rw [c_3_5]; decide) (by rw [c_3_5]; rfl) (by decide) ?_
    refine lv_aload_n hx hb dX7_count_91 rfl (lv_at hl 1 rfl) ?_
    obtain ⟨r_92, e_92, h⟩ := bnd_of h
    refine callP (W.runV (As := []) C.1 (cM_isWhole e_92) (cwV 0 hts gX7_count_X7_isWhole rfl rfl rfl (by decide +kernel) ⟨by decide, by decide⟩) (mPreR C.2 hP _) rfl rfl hl.1 rfl (lv_room (Nat.le_of_ble_eq_true rfl)) dX7_count_92 ⟨Nat.zero_le _, Nat.zero_le _⟩) ?_
    refine lv_if_eq (tgt := 102) hx hb dX7_count_95 (by decide) (fun c_95 => ?_) (fun c_95 => ?_)
    · have h := zz_pos c_95 h
      refine lv_iconst (v := (0 : Int32)) hx hb dX7_count_102 (by decide) ?_
      exact W.iret hx hb hr (fun t ht hW => ⟨by rw [← some_of h], by rw [ht, ← some_of h]; exact hP, hS.F ht⟩) hS.2.2 dX7_count_103
    · have h := zz_neg c_95 h
      refine lv_iconst (v := (1 : Int32)) hx hb dX7_count_98 (by decide) ?_
      refine lv_goto (tgt := 103) hx hb dX7_count_99 (by decide) ?_
      exact W.iret hx hb hr (fun t ht hW => ⟨by rw [← some_of h], by rw [ht, ← some_of h]; exact hP, hS.F ht⟩) hS.2.2 dX7_count_103
  have h := zz_neg c_3_5 h
  by_cases c_3_6 : x1 = (6 : Int32)
  · have h := zz_pos c_3_6 h
    refine lv_tableIn (tgt := 104) (off := 101) hx hb dX7_count_3 (by rw [c_3_6]; decide) (by rw [c_3_6]; decide) (by rw [c_3_6]; rfl) (by decide) ?_
    refine lv_aload_n hx hb dX7_count_104 rfl (lv_at hl 1 rfl) ?_
    obtain ⟨r_105, e_105, h⟩ := bnd_of h
    refine callP (W.runV (As := []) C.1 (cM_isWhole e_105) (cwV 0 hts gX7_count_X7_isWhole rfl rfl rfl (by decide +kernel) ⟨by decide, by decide⟩) (mPreR C.2 hP _) rfl rfl hl.1 rfl (lv_room (Nat.le_of_ble_eq_true rfl)) dX7_count_105 ⟨Nat.zero_le _, Nat.zero_le _⟩) ?_
    refine lv_if_ne (tgt := 113) hx hb dX7_count_108 (by decide) (fun c_108 => ?_) (fun c_108 => ?_)
    · have h := zz_neg c_108 h
      refine lv_aload_n hx hb dX7_count_113 rfl (lv_at hl 1 rfl) ?_
      obtain ⟨r_114, e_114, h⟩ := bnd_of h
      refine mCall (va_runV (As := []) C.1 (cM_list e_114) (cwV 0 hts gX7_count_X7_list rfl rfl rfl (by decide +kernel) ⟨by decide, by decide⟩) (mPreM C.2 hP hD _) rfl rfl hl.1 rfl (lv_room (Nat.le_of_ble_eq_true rfl)) dX7_count_114 ⟨Nat.zero_le _, Nat.zero_le _⟩) hS hD (fun _ h => Or.inr h) (fun H locs hP hS => ?_)
      refine lv_aload_n hx hb dX7_count_117 rfl (lv_at hl 1 rfl) ?_
      refine mG_22 C in_7 hP k_79 dX7_count_118 ?_
      refine lv_aload_n hx hb dX7_count_121 rfl (lv_at hl 1 rfl) ?_
      refine mG_16 C in_7 hP k_60 dX7_count_122 ?_
      refine lv_aload_n hx hb dX7_count_125 rfl (lv_at hl 1 rfl) ?_
      obtain ⟨r_126, e_126, h⟩ := bnd_of h
      refine callP (W.runV (As := []) C.1 (cM_all e_126) (cwV 0 hts gX7_count_X7_all rfl rfl rfl (by decide +kernel) ⟨by decide, by decide⟩) (mPreR C.2 hP _) rfl rfl hl.1 rfl (lv_room (Nat.le_of_ble_eq_true rfl)) dX7_count_126 ⟨Nat.zero_le _, Nat.zero_le _⟩) ?_
      obtain ⟨b_129, h⟩ := chk_of h
      refine mL_16 C hP b_129 dX7_count_129 ?_
      refine lv_isub hx hb dX7_count_130 ?_
      exact W.iret hx hb hr (fun t ht hW => ⟨by rw [← some_of h], by rw [ht, ← some_of h]; exact hP, hS.F ht⟩) hS.2.2 dX7_count_131
    · have h := zz_pos c_108 h
      refine lv_iconst (v := (0 : Int32)) hx hb dX7_count_111 (by decide) ?_
      exact W.iret hx hb hr (fun t ht hW => ⟨by rw [← some_of h], by rw [ht, ← some_of h]; exact hP, hS.F ht⟩) hS.2.2 dX7_count_112
  have h := zz_neg c_3_6 h
  refine lv_tableOut (tgt := 132) hx hb dX7_count_3 (by have e_0 := sw_ne (n := 0) 0 (by decide) c_3_0; have e_1 := sw_ne (n := 1) 1 (by decide) c_3_1; have e_2 := sw_ne (n := 2) 2 (by decide) c_3_2; have e_3 := sw_ne (n := 3) 3 (by decide) c_3_3; have e_4 := sw_ne (n := 4) 4 (by decide) c_3_4; have e_5 := sw_ne (n := 5) 5 (by decide) c_3_5; have e_6 := sw_ne (n := 6) 6 (by decide) c_3_6; omega) (by decide) ?_
  refine lv_iconst (v := (-1 : Int32)) hx hb dX7_count_132 (by decide) ?_
  exact W.iret hx hb hr (fun t ht hW => ⟨by rw [← some_of h], by rw [ht, ← some_of h]; exact hP, hS.F ht⟩) hS.2.2 dX7_count_133
