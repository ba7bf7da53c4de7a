/-! the class, S: isEnough, fewestNear -/
def fS_isEnough_L5 (N : Nat) (σ : CSt) : Nat → Int32 → Int64 → Int32 → Option (Int32)
  | 0, _, _, _ => none
  | n + 1, x1, x2, x4 => (if (σ.1 500) ≤ x4 then (if (lg_cmp x2 (8589934591 : Int64)) = 0 then some (1 : Int32) else some (0 : Int32)) else (if (16 : Int32) ≤ x4 then (if (lg_cmp x2 (8589934591 : Int64)) = 0 then some (1 : Int32) else some (0 : Int32)) else (if ((x1 >>> (x4 &&& 31)) &&& (1 : Int32)) = 0 then fS_isEnough_L5 N σ n x1 x2 (x4 + 1) else chk x4 16 (fS_isEnough_L5 N σ n x1 (x2 ||| (σ.2.2.2.1 506 x4.toNatClampNeg)) (x4 + 1)))))
def fS_isEnough (N : Nat) (σ : CSt) (x1 : Int32) : Option (Int32) := fS_isEnough_L5 N σ N x1 (0 : Int64) (0 : Int32)
set_option maxRecDepth 100000 in
set_option maxHeartbeats 4000000 in
theorem wS_isEnough_L5 {p : Program} {l : Launch} {e : Env} {s : State} {m : MethodId} {args : Array Value} {below : List Frame} {meth : Method} {c : Code} {D : va_G} {κ : Nat → ClassId} {ρ : Nat → Nat} {g : Gh} {σ : CSt} (C : CallFix p m c cX5_isEnough 5 s args wsX5_isEnough RX5) (hr : meth.sig.returnType = (some .boolean)) (hlk : meth.locks = false) (hw : RC D κ ρ g σ s s.heap) {N : Nat} {r : Int32} : ∀ (n : Nat) (x1 : Int32) (x2 : Int64) (x4 : Int32) (ls : Array Slot), fS_isEnough_L5 N σ n x1 x2 x4 = some r → lv_has ls 5 [(0, .ref (ρ 599)), (1, .int x1), (2, .long x2), (4, .int x4)] → W p l e ({ frames := 0, cells := 0, slots := 0, locals := 0 } : Room) s m args below meth c s.heap [] 0 0 (MQ below (PU (some (.int r))) args s 0 0 (fun _ => False)) (F0 m 5 ls []) := by
  have hx := C.1
  have hb := C.2.1
  have hts := C.2.2.2.2
  have hown := C.2.2.2.1
  have k_27 := hts (.fieldLink RX5 27 "PlanCabinet$Spans" "pointsNear" "[J") (by decide +kernel)
  have k_34 := hts (.fieldLink RX5 34 "PlanCabinet$Spans" "count" "I") (by decide +kernel)
  have k_136 := hts (.constantLong RX5 136 (8589934591)) (by decide +kernel)
  have in_5 : ∀ w ∈ wsX50, w ∈ wsX5_isEnough := by decide +kernel
  intro n
  induction n with
  | zero =>
    intro x1 x2 x4 ls h hl
    rw [fS_isEnough_L5] at h
    cases h
  | succ n ih =>
    intro x1 x2 x4 ls h hl
    rw [fS_isEnough_L5] at h
    refine lv_iload hx hb dX5_isEnough_5 (lv_at hl 3 rfl) ?_
    refine lv_aload_n hx hb dX5_isEnough_7 rfl (lv_at hl 0 rfl) ?_
    refine cG_500 C in_5 hw k_34 dX5_isEnough_8 ?_
    refine lv_icmp_ge (tgt := 46) hx hb dX5_isEnough_11 (by decide) (fun c_11 => ?_) (fun c_11 => ?_)
    · have h := zz_pos c_11 h
      refine lv_lload_n hx hb dX5_isEnough_46 rfl (lv_at hl 2 rfl) ?_
      refine lv_ldc2 hx hb hown k_136 dX5_isEnough_47 ?_
      refine W.lcmp hx hb dX5_isEnough_50 ?_
      refine lv_if_ne (tgt := 58) hx hb dX5_isEnough_51 (by decide) (fun c_51 => ?_) (fun c_51 => ?_)
      · have h := zz_neg c_51 h
        refine lv_iconst (v := (0 : Int32)) hx hb dX5_isEnough_58 (by decide) ?_
        exact W.zret (ty := .boolean) hx hb hr (by decide +kernel) (fun t ht hW => ⟨by rw [some_of h], ht⟩) (fun _ h => by cases h) dX5_isEnough_59
      · have h := zz_pos c_51 h
        refine lv_iconst (v := (1 : Int32)) hx hb dX5_isEnough_54 (by decide) ?_
        refine lv_goto (tgt := 59) hx hb dX5_isEnough_55 (by decide) ?_
        exact W.zret (ty := .boolean) hx hb hr (by decide +kernel) (fun t ht hW => ⟨by rw [some_of h], ht⟩) (fun _ h => by cases h) dX5_isEnough_59
    · have h := zz_neg c_11 h
      refine lv_iload hx hb dX5_isEnough_14 (lv_at hl 3 rfl) ?_
      refine lv_bipush (v := (16 : Int32)) hx hb dX5_isEnough_16 (by decide) ?_
      refine lv_icmp_ge (tgt := 46) hx hb dX5_isEnough_18 (by decide) (fun c_18 => ?_) (fun c_18 => ?_)
      · have h := zz_pos c_18 h
        refine lv_lload_n hx hb dX5_isEnough_46 rfl (lv_at hl 2 rfl) ?_
        refine lv_ldc2 hx hb hown k_136 dX5_isEnough_47 ?_
        refine W.lcmp hx hb dX5_isEnough_50 ?_
        refine lv_if_ne (tgt := 58) hx hb dX5_isEnough_51 (by decide) (fun c_51 => ?_) (fun c_51 => ?_)
        · have h := zz_neg c_51 h
          refine lv_iconst (v := (0 : Int32)) hx hb dX5_isEnough_58 (by decide) ?_
          exact W.zret (ty := .boolean) hx hb hr (by decide +kernel) (fun t ht hW => ⟨by rw [some_of h], ht⟩) (fun _ h => by cases h) dX5_isEnough_59
        · have h := zz_pos c_51 h
          refine lv_iconst (v := (1 : Int32)) hx hb dX5_isEnough_54 (by decide) ?_
          refine lv_goto (tgt := 59) hx hb dX5_isEnough_55 (by decide) ?_
          exact W.zret (ty := .boolean) hx hb hr (by decide +kernel) (fun t ht hW => ⟨by rw [some_of h], ht⟩) (fun _ h => by cases h) dX5_isEnough_59
      · have h := zz_neg c_18 h
        refine lv_iload_n hx hb dX5_isEnough_21 rfl (lv_at hl 1 rfl) ?_
        refine lv_iload hx hb dX5_isEnough_22 (lv_at hl 3 rfl) ?_
        refine lv_ishr hx hb dX5_isEnough_24 ?_
        refine lv_iconst (v := (1 : Int32)) hx hb dX5_isEnough_25 (by decide) ?_
        refine lv_iand hx hb dX5_isEnough_26 ?_
        refine lv_if_eq (tgt := 40) hx hb dX5_isEnough_27 (by decide) (fun c_27 => ?_) (fun c_27 => ?_)
        · have h := zz_pos c_27 h
          refine lv_iinc (v := (x4 + 1)) (lv' := [(4, .int (x4 + 1)), (0, .ref (ρ 599)), (1, .int x1), (2, .long x2)]) hx hb dX5_isEnough_40 hl (k := 3) rfl rfl (by decide) rfl (fun ls hl => ?_)
          refine lv_goto (tgt := 5) hx hb dX5_isEnough_43 (by decide) ?_
          exact ih _ _ _ _ h (lv_sub hl [1, 2, 3, 0] rfl)
        · have h := zz_neg c_27 h
          refine lv_lload_n hx hb dX5_isEnough_30 rfl (lv_at hl 2 rfl) ?_
          refine lv_aload_n hx hb dX5_isEnough_31 rfl (lv_at hl 0 rfl) ?_
          refine cG_506 C in_5 hw k_27 dX5_isEnough_32 ?_
          refine lv_iload hx hb dX5_isEnough_35 (lv_at hl 3 rfl) ?_
          obtain ⟨b_37, h⟩ := chk_of h
          refine cL_506 C hw b_37 dX5_isEnough_37 ?_
          refine lv_lor hx hb dX5_isEnough_38 ?_
          refine lv_lstore_n (lv' := [(2, .long (x2 ||| (σ.2.2.2.1 506 x4.toNatClampNeg))), (0, .ref (ρ 599)), (1, .int x1), (4, .int x4)]) hx hb dX5_isEnough_39 rfl hl (by decide) rfl (fun ls hl => ?_)
          refine lv_iinc (v := (x4 + 1)) (lv' := [(4, .int (x4 + 1)), (2, .long (x2 ||| (σ.2.2.2.1 506 x4.toNatClampNeg))), (0, .ref (ρ 599)), (1, .int x1)]) hx hb dX5_isEnough_40 hl (k := 3) rfl rfl (by decide) rfl (fun ls hl => ?_)
          refine lv_goto (tgt := 5) hx hb dX5_isEnough_43 (by decide) ?_
          exact ih _ _ _ _ h (lv_sub hl [2, 3, 1, 0] rfl)
set_option maxRecDepth 100000 in
set_option maxHeartbeats 4000000 in
theorem cS_isEnough {l : Launch} {D : va_G} {κ : Nat → ClassId} {ρ : Nat → Nat} {g : Gh} {N : Nat} {σ : CSt} {x1 : Int32} {r : Int32} (h : fS_isEnough N σ x1 = some r) : Met l yX5_isEnough wsX5_isEnough ({ frames := 0, cells := 0, slots := 0, locals := 0 } : Room) (va_Pc [.ref (ρ 599), .int x1] (PRC D κ ρ g σ)) (PU (some (.int r))) 0 0 (fun _ => False) := by
  refine cMetR (ret := (some .boolean)) (by decide) rfl rfl (Nat.le_of_ble_eq_true rfl) ?_
  intro p e s m below meth c ls C hr hlk hw hl
  have hl : lv_has ls 5 [(0, .ref (ρ 599)), (1, .int x1)] := hl
  unfold fS_isEnough at h
  have hx := C.1
  have hb := C.2.1
  have hts := C.2.2.2.2
  have hown := C.2.2.2.1
  refine lv_lconst (v := (0 : Int64)) hx hb dX5_isEnough_0 (by decide) ?_
  refine lv_lstore_n (lv' := [(2, .long (0 : Int64)), (0, .ref (ρ 599)), (1, .int x1)]) hx hb dX5_isEnough_1 rfl hl (by decide) rfl (fun ls hl => ?_)
  refine lv_iconst (v := (0 : Int32)) hx hb dX5_isEnough_2 (by decide) ?_
  refine lv_istore (lv' := [(4, .int (0 : Int32)), (2, .long (0 : Int64)), (0, .ref (ρ 599)), (1, .int x1)]) hx hb dX5_isEnough_3 hl (by decide) rfl (fun ls hl => ?_)
  exact wS_isEnough_L5 C hr hlk hw _ _ _ _ _ h (lv_sub hl [2, 3, 1, 0] rfl)
def fS_fewestNear_J41 (N : Nat) (K22 : CSt → Int32 → Int32 → Int32 → Option (Int32 × CSt)) (σ : CSt) (x2 : Int32) (x3 : Int32) (x4 : Int32) : Option (Int32 × CSt) := (fS_isEnough N σ x4).bind fun r_44 => (if r_44 = 0 then K22 σ x2 x3 (x4 + 1) else K22 σ x4 x3 (x4 + 1))
def fS_fewestNear_L22 (N : Nat) : Nat → CSt → Int32 → Int32 → Int32 → Option (Int32 × CSt)
  | 0, _, _, _, _ => none
  | n + 1, σ, x2, x3, x4 => (if x3 ≤ x4 then some (x2, σ) else (if x2 = 0 then fS_fewestNear_J41 N (fun (σ : CSt) (x2 : Int32) (x3 : Int32) (x4 : Int32) => fS_fewestNear_L22 N n σ x2 x3 x4) σ x2 x3 x4 else (fS_isSetBefore N x4 x2).bind fun r_35 => (if r_35 = 0 then fS_fewestNear_L22 N n σ x2 x3 (x4 + 1) else fS_fewestNear_J41 N (fun (σ : CSt) (x2 : Int32) (x3 : Int32) (x4 : Int32) => fS_fewestNear_L22 N n σ x2 x3 x4) σ x2 x3 x4)))
def fS_fewestNear (N : Nat) (σ : CSt) (x1 : Int32) : Option (Int32 × CSt) := (fS_findPointsNear N σ x1).bind fun r_2 => fS_fewestNear_L22 N N r_2 (0 : Int32) ((1 : Int32) <<< ((if (16 : Int32) < (r_2.1 500) then (16 : Int32) else (r_2.1 500)) &&& 31)) (1 : Int32)
set_option maxRecDepth 100000 in
set_option maxHeartbeats 4000000 in
theorem wS_fewestNear_J41 {p : Program} {l : Launch} {e : Env} {s : State} {m : MethodId} {args : Array Value} {below : List Frame} {meth : Method} {c : Code} {D : va_G} {κ : Nat → ClassId} {ρ : Nat → Nat} {g0 : Gh} (C : CallFix p m c cX5_fewestNear 5 s args wsX5_fewestNear RX5) (hr : meth.sig.returnType = (some .int)) (hlk : meth.locks = false) {N : Nat} {q : Int32 × CSt} {K22 : CSt → Int32 → Int32 → Int32 → Option (Int32 × CSt)} : ∀ (σ : CSt) (x2 : Int32) (x3 : Int32) (x4 : Int32) (g : Gh) (H : Heap) (locs : List Loc) (ls : Array Slot), fS_fewestNear_J41 N K22 σ x2 x3 x4 = some q → WC D κ ρ (AC ρ g0 s.heap.size) s.heap g σ s H locs → sub g0 g → lv_has ls 5 [(0, .ref (ρ 599)), (2, .int x2), (3, .int x3), (4, .int x4)] → (∀ (σ : CSt) (x2 : Int32) (x3 : Int32) (x4 : Int32) (g : Gh) (H : Heap) (locs : List Loc) (ls : Array Slot), K22 σ x2 x3 x4 = some q → WC D κ ρ (AC ρ g0 s.heap.size) s.heap g σ s H locs → sub g0 g → lv_has ls 5 [(0, .ref (ρ 599)), (2, .int x2), (3, .int x3), (4, .int x4)] → W p l e ({ frames := 4, cells := 0, slots := 0, locals := 90 } : Room) s m args below meth c H locs 0 0 (MQ below (QC D κ ρ s.heap.size g0 q.2 (some (.int q.1))) args s 0 0 (AC ρ g0 s.heap.size)) (F0 m 22 ls [])) → W p l e ({ frames := 4, cells := 0, slots := 0, locals := 90 } : Room) s m args below meth c H locs 0 0 (MQ below (QC D κ ρ s.heap.size g0 q.2 (some (.int q.1))) args s 0 0 (AC ρ g0 s.heap.size)) (F0 m 41 ls []) := by
  have hx := C.1
  have hb := C.2.1
  have hts := C.2.2.2.2
  have hown := C.2.2.2.1
  intro σ x2 x3 x4 g H locs ls h hw hg hl hK22
  unfold fS_fewestNear_J41 at h
  refine lv_aload_n hx hb dX5_fewestNear_41 rfl (lv_at hl 0 rfl) ?_
  refine lv_iload hx hb dX5_fewestNear_42 (lv_at hl 3 rfl) ?_
  obtain ⟨r_44, e_44, h⟩ := bnd_of h
  refine callP (W.runV (As := [.int x4]) C (cS_isEnough e_44) (cwV 1 hts gX5_fewestNear_X5_isEnough rfl rfl rfl (by decide +kernel) ⟨by decide, by decide⟩) (preR (recv_599 hw.1) hw.1) rfl rfl hl.1 rfl (lv_room (Nat.le_of_ble_eq_true rfl)) dX5_fewestNear_44 ⟨Nat.zero_le _, Nat.zero_le _⟩) ?_
  refine lv_if_eq (tgt := 53) hx hb dX5_fewestNear_47 (by decide) (fun c_47 => ?_) (fun c_47 => ?_)
  · have h := zz_pos c_47 h
    refine lv_iinc (v := (x4 + 1)) (lv' := [(4, .int (x4 + 1)), (0, .ref (ρ 599)), (2, .int x2), (3, .int x3)]) hx hb dX5_fewestNear_53 hl (k := 3) rfl rfl (by decide) rfl (fun ls hl => ?_)
    refine lv_goto (tgt := 22) hx hb dX5_fewestNear_56 (by decide) ?_
    exact hK22 _ _ _ _ _ _ _ _ h hw hg (lv_sub hl [1, 2, 3, 0] rfl)
  · have h := zz_neg c_47 h
    refine lv_iload hx hb dX5_fewestNear_50 (lv_at hl 3 rfl) ?_
    refine lv_istore_n (lv' := [(2, .int x4), (0, .ref (ρ 599)), (3, .int x3), (4, .int x4)]) hx hb dX5_fewestNear_52 rfl hl (by decide) rfl (fun ls hl => ?_)
    refine lv_iinc (v := (x4 + 1)) (lv' := [(4, .int (x4 + 1)), (2, .int x4), (0, .ref (ρ 599)), (3, .int x3)]) hx hb dX5_fewestNear_53 hl (k := 3) rfl rfl (by decide) rfl (fun ls hl => ?_)
    refine lv_goto (tgt := 22) hx hb dX5_fewestNear_56 (by decide) ?_
    exact hK22 _ _ _ _ _ _ _ _ h hw hg (lv_sub hl [2, 1, 3, 0] rfl)
set_option maxRecDepth 100000 in
set_option maxHeartbeats 4000000 in
theorem wS_fewestNear_L22 {p : Program} {l : Launch} {e : Env} {s : State} {m : MethodId} {args : Array Value} {below : List Frame} {meth : Method} {c : Code} {D : va_G} {κ : Nat → ClassId} {ρ : Nat → Nat} {g0 : Gh} (C : CallFix p m c cX5_fewestNear 5 s args wsX5_fewestNear RX5) (hr : meth.sig.returnType = (some .int)) (hlk : meth.locks = false) {N : Nat} {q : Int32 × CSt} : ∀ (n : Nat) (σ : CSt) (x2 : Int32) (x3 : Int32) (x4 : Int32) (g : Gh) (H : Heap) (locs : List Loc) (ls : Array Slot), fS_fewestNear_L22 N n σ x2 x3 x4 = some q → WC D κ ρ (AC ρ g0 s.heap.size) s.heap g σ s H locs → sub g0 g → lv_has ls 5 [(0, .ref (ρ 599)), (2, .int x2), (3, .int x3), (4, .int x4)] → W p l e ({ frames := 4, cells := 0, slots := 0, locals := 90 } : Room) s m args below meth c H locs 0 0 (MQ below (QC D κ ρ s.heap.size g0 q.2 (some (.int q.1))) args s 0 0 (AC ρ g0 s.heap.size)) (F0 m 22 ls []) := by
  have hx := C.1
  have hb := C.2.1
  have hts := C.2.2.2.2
  have hown := C.2.2.2.1
  intro n
  induction n with
  | zero =>
    intro σ x2 x3 x4 g H locs ls h hw hg hl
    rw [fS_fewestNear_L22] at h
    cases h
  | succ n ih =>
    intro σ x2 x3 x4 g H locs ls h hw hg hl
    rw [fS_fewestNear_L22] at h
    refine lv_iload hx hb dX5_fewestNear_22 (lv_at hl 3 rfl) ?_
    refine lv_iload_n hx hb dX5_fewestNear_24 rfl (lv_at hl 2 rfl) ?_
    refine lv_icmp_ge (tgt := 59) hx hb dX5_fewestNear_25 (by decide) (fun c_25 => ?_) (fun c_25 => ?_)
    · have h := zz_pos c_25 h
      refine lv_iload_n hx hb dX5_fewestNear_59 rfl (lv_at hl 1 rfl) ?_
      exact W.iret hx hb hr (fun t ht hW => QC.of (by rw [← some_of h]) (by rw [← some_of h]; exact hw) hg ht hW) hw.2.2.2.2 dX5_fewestNear_60
    · have h := zz_neg c_25 h
      refine lv_iload_n hx hb dX5_fewestNear_28 rfl (lv_at hl 1 rfl) ?_
      refine lv_if_eq (tgt := 41) hx hb dX5_fewestNear_29 (by decide) (fun c_29 => ?_) (fun c_29 => ?_)
      · have h := zz_pos c_29 h
        refine wS_fewestNear_J41 C hr hlk  _ _ _ _ _ _ _ _ h hw hg (lv_sub hl [0, 1, 2, 3] rfl) ?_
        intro σ x2 x3 x4 g H locs ls h hw hg hl
        exact ih _ _ _ _ _ _ _ _ h hw hg (lv_sub hl [0, 1, 2, 3] rfl)
      · have h := zz_neg c_29 h
        refine lv_iload hx hb dX5_fewestNear_32 (lv_at hl 3 rfl) ?_
        refine lv_iload_n hx hb dX5_fewestNear_34 rfl (lv_at hl 1 rfl) ?_
        obtain ⟨r_35, e_35, h⟩ := bnd_of h
        refine callP (W.runS (As := [.int x4, .int x2]) C (cS_isSetBefore e_35) (cwS 2 hts gX5_fewestNear_X5_isSetBefore rfl rfl rfl (by decide +kernel) ⟨by decide, by decide⟩) preT rfl rfl hl.1 rfl (lv_room (Nat.le_of_ble_eq_true rfl)) dX5_fewestNear_35 ⟨Nat.zero_le _, Nat.zero_le _⟩) ?_
        refine lv_if_eq (tgt := 53) hx hb dX5_fewestNear_38 (by decide) (fun c_38 => ?_) (fun c_38 => ?_)
        · have h := zz_pos c_38 h
          refine lv_iinc (v := (x4 + 1)) (lv' := [(4, .int (x4 + 1)), (0, .ref (ρ 599)), (2, .int x2), (3, .int x3)]) hx hb dX5_fewestNear_53 hl (k := 3) rfl rfl (by decide) rfl (fun ls hl => ?_)
          refine lv_goto (tgt := 22) hx hb dX5_fewestNear_56 (by decide) ?_
          exact ih _ _ _ _ _ _ _ _ h hw hg (lv_sub hl [1, 2, 3, 0] rfl)
        · have h := zz_neg c_38 h
          refine wS_fewestNear_J41 C hr hlk  _ _ _ _ _ _ _ _ h hw hg (lv_sub hl [0, 1, 2, 3] rfl) ?_
          intro σ x2 x3 x4 g H locs ls h hw hg hl
          exact ih _ _ _ _ _ _ _ _ h hw hg (lv_sub hl [0, 1, 2, 3] rfl)
set_option maxRecDepth 100000 in
set_option maxHeartbeats 4000000 in
theorem cS_fewestNear {l : Launch} {D : va_G} {κ : Nat → ClassId} {ρ : Nat → Nat} {g0 : Gh} {sz : Nat} {N : Nat} {σ : CSt} {x1 : Int32} {q : Int32 × CSt} (h : fS_fewestNear N σ x1 = some q) : Met l yX5_fewestNear wsX5_fewestNear ({ frames := 4, cells := 0, slots := 0, locals := 90 } : Room) (va_Pc [.ref (ρ 599), .int x1] (PC D κ ρ sz g0 σ)) (QC D κ ρ sz g0 q.2 (some (.int q.1))) 0 0 (AC ρ g0 sz) := by
  refine cMetM (Qc := fun z => QC D κ ρ z g0 q.2 (some (.int q.1))) (ret := (some .int)) (by decide) rfl rfl (Nat.le_of_ble_eq_true rfl) ?_
  intro p e s m below meth c ls C hr hlk hw hl
  obtain ⟨g, eg⟩ : ∃ x, x = g0 := ⟨_, rfl⟩
  have hw : WC D κ ρ (AC ρ g0 s.heap.size) s.heap g σ s s.heap [] := by rw [eg]; exact hw
  have hg : sub g0 g := by rw [eg]; exact sub_rf g0
  have hl : lv_has ls 5 [(0, .ref (ρ 599)), (1, .int x1)] := hl
  unfold fS_fewestNear at h
  have hx := C.1
  have hb := C.2.1
  have hts := C.2.2.2.2
  have hown := C.2.2.2.1
  have k_34 := hts (.fieldLink RX5 34 "PlanCabinet$Spans" "count" "I") (by decide +kernel)
  have in_5 : ∀ w ∈ wsX50, w ∈ wsX5_fewestNear := by decide +kernel
  refine lv_aload_n hx hb dX5_fewestNear_0 rfl (lv_at hl 0 rfl) ?_
  refine lv_iload_n hx hb dX5_fewestNear_1 rfl (lv_at hl 1 rfl) ?_
  obtain ⟨r_2, e_2, h⟩ := bnd_of h
  refine callC (va_runV (As := [.int x1]) C (cS_findPointsNear e_2) (cwV 1 hts gX5_fewestNear_X5_findPointsNear rfl rfl rfl (by decide +kernel) ⟨by decide, by decide⟩) (preM (recv_599 hw.1) hw) rfl rfl hl.1 rfl (lv_room (Nat.le_of_ble_eq_true rfl)) dX5_fewestNear_2 ⟨Nat.zero_le _, Nat.zero_le _⟩) hw (fun _ h => Or.inr h) (fun g H locs hs hw => ?_)
  have hg := sub_tr hg hs
  refine lv_iconst (v := (0 : Int32)) hx hb dX5_fewestNear_5 (by decide) ?_
  refine lv_istore_n (lv' := [(2, .int (0 : Int32)), (0, .ref (ρ 599)), (1, .int x1)]) hx hb dX5_fewestNear_6 rfl hl (by decide) rfl (fun ls hl => ?_)
  refine lv_iconst (v := (1 : Int32)) hx hb dX5_fewestNear_7 (by decide) ?_
  refine lv_aload_n hx hb dX5_fewestNear_8 rfl (lv_at hl 1 rfl) ?_
  refine cG_500 C in_5 hw.1 k_34 dX5_fewestNear_9 ?_
  refine lv_bipush (v := (16 : Int32)) hx hb dX5_fewestNear_12 (by decide) ?_
  refine va_mmin hx hb (C.2.2.1.trans hl.1.symm) hown (hts (.methodLink RX5 116 yJ9_min_7cf53) (by decide +kernel)) (hts (.static yJ9_min_7cf53) (by decide +kernel)) (hts (.initialized RJ9) (by decide +kernel)) (hts (.code yJ9_min_7cf53 cJ9_min_7cf53 2 (some .int)) (by decide +kernel)) (Nat.le_of_ble_eq_true rfl) (Nat.le_of_ble_eq_true rfl) (Nat.zero_le _) (Nat.zero_le _) dX5_fewestNear_14 ?_
  refine lv_ishl hx hb dX5_fewestNear_17 ?_
  refine lv_istore_n (lv' := [(3, .int ((1 : Int32) <<< ((if (16 : Int32) < (r_2.1 500) then (16 : Int32) else (r_2.1 500)) &&& 31))), (2, .int (0 : Int32)), (0, .ref (ρ 599)), (1, .int x1)]) hx hb dX5_fewestNear_18 rfl hl (by decide) rfl (fun ls hl => ?_)
  refine lv_iconst (v := (1 : Int32)) hx hb dX5_fewestNear_19 (by decide) ?_
  refine lv_istore (lv' := [(4, .int (1 : Int32)), (3, .int ((1 : Int32) <<< ((if (16 : Int32) < (r_2.1 500) then (16 : Int32) else (r_2.1 500)) &&& 31))), (2, .int (0 : Int32)), (0, .ref (ρ 599)), (1, .int x1)]) hx hb dX5_fewestNear_20 hl (by decide) rfl (fun ls hl => ?_)
  exact wS_fewestNear_L22 C hr hlk  _ _ _ _ _ _ _ _ _ h hw hg (lv_sub hl [3, 2, 1, 0] rfl)
