/-! the reference: merge, sort, joinTop, run -/
def fM_merge_J102 (N : Nat) (K9 : MSt → Int32 → Int32 → Int32 → Int32 → Int32 → Option (MSt)) (σ : MSt) (x2 : Int32) (x3 : Int32) (x5 : Int32) (x6 : Int32) (x7 : Int32) (y0 : Int32) (y1 : Int32) : Option (MSt) := (if x7 = 0 then K9 σ x2 x3 (y0 + y1) (x5 + (1 : Int32)) (x6 + 1) else K9 σ x2 x3 (y0 + y1) (x5 + (0 : Int32)) (x6 + 1))
def fM_merge_J89 (N : Nat) (K9 : MSt → Int32 → Int32 → Int32 → Int32 → Int32 → Option (MSt)) (σ : MSt) (x2 : Int32) (x3 : Int32) (x4 : Int32) (x5 : Int32) (x6 : Int32) (x7 : Int32) (y1 : Int32) (y2 : Int32) : Option (MSt) := chk y1 20736 ((if x7 = 0 then fM_merge_J102 N (fun (σ : MSt) (x2 : Int32) (x3 : Int32) (x4 : Int32) (x5 : Int32) (x6 : Int32) => K9 σ x2 x3 x4 x5 x6) (sA σ 34 y1.toNatClampNeg y2) x2 x3 x5 x6 x7 x4 (0 : Int32) else fM_merge_J102 N (fun (σ : MSt) (x2 : Int32) (x3 : Int32) (x4 : Int32) (x5 : Int32) (x6 : Int32) => K9 σ x2 x3 x4 x5 x6) (sA σ 34 y1.toNatClampNeg y2) x2 x3 x5 x6 x7 x4 (1 : Int32)))
def fM_merge_J59 (N : Nat) (K9 : MSt → Int32 → Int32 → Int32 → Int32 → Int32 → Option (MSt)) (σ : MSt) (x2 : Int32) (x3 : Int32) (x4 : Int32) (x5 : Int32) (x6 : Int32) (y0 : Int32) : Option (MSt) := (if y0 = 0 then chk x5 20736 (fM_merge_J89 N (fun (σ : MSt) (x2 : Int32) (x3 : Int32) (x4 : Int32) (x5 : Int32) (x6 : Int32) => K9 σ x2 x3 x4 x5 x6) σ x2 x3 x4 x5 x6 y0 x6 (σ.2.2.1 33 x5.toNatClampNeg)) else chk x4 20736 (fM_merge_J89 N (fun (σ : MSt) (x2 : Int32) (x3 : Int32) (x4 : Int32) (x5 : Int32) (x6 : Int32) => K9 σ x2 x3 x4 x5 x6) σ x2 x3 x4 x5 x6 y0 x6 (σ.2.2.1 33 x4.toNatClampNeg)))
def fM_merge_J54 (N : Nat) (K9 : MSt → Int32 → Int32 → Int32 → Int32 → Int32 → Option (MSt)) (σ : MSt) (x2 : Int32) (x3 : Int32) (x4 : Int32) (x5 : Int32) (x6 : Int32) : Option (MSt) := fM_merge_J59 N (fun (σ : MSt) (x2 : Int32) (x3 : Int32) (x4 : Int32) (x5 : Int32) (x6 : Int32) => K9 σ x2 x3 x4 x5 x6) σ x2 x3 x4 x5 x6 (1 : Int32)
def fM_merge_J58 (N : Nat) (K9 : MSt → Int32 → Int32 → Int32 → Int32 → Int32 → Option (MSt)) (σ : MSt) (x2 : Int32) (x3 : Int32) (x4 : Int32) (x5 : Int32) (x6 : Int32) : Option (MSt) := fM_merge_J59 N (fun (σ : MSt) (x2 : Int32) (x3 : Int32) (x4 : Int32) (x5 : Int32) (x6 : Int32) => K9 σ x2 x3 x4 x5 x6) σ x2 x3 x4 x5 x6 (0 : Int32)
def fM_merge_L9 (N : Nat) : Nat → MSt → Int32 → Int32 → Int32 → Int32 → Int32 → Option (MSt)
  | 0, _, _, _, _, _, _ => none
  | n + 1, σ, x2, x3, x4, x5, x6 => (if x3 ≤ x6 then some σ else (if x5 = x3 then fM_merge_J54 N (fun (σ : MSt) (x2 : Int32) (x3 : Int32) (x4 : Int32) (x5 : Int32) (x6 : Int32) => fM_merge_L9 N n σ x2 x3 x4 x5 x6) σ x2 x3 x4 x5 x6 else (if x2 ≤ x4 then fM_merge_J58 N (fun (σ : MSt) (x2 : Int32) (x3 : Int32) (x4 : Int32) (x5 : Int32) (x6 : Int32) => fM_merge_L9 N n σ x2 x3 x4 x5 x6) σ x2 x3 x4 x5 x6 else chk x4 20736 (chk (σ.2.2.1 33 x4.toNatClampNeg) 20736 (chk x5 20736 (chk (σ.2.2.1 33 x5.toNatClampNeg) 20736 ((if (σ.2.2.1 32 (σ.2.2.1 33 x5.toNatClampNeg).toNatClampNeg) < (σ.2.2.1 32 (σ.2.2.1 33 x4.toNatClampNeg).toNatClampNeg) then fM_merge_J58 N (fun (σ : MSt) (x2 : Int32) (x3 : Int32) (x4 : Int32) (x5 : Int32) (x6 : Int32) => fM_merge_L9 N n σ x2 x3 x4 x5 x6) σ x2 x3 x4 x5 x6 else fM_merge_J54 N (fun (σ : MSt) (x2 : Int32) (x3 : Int32) (x4 : Int32) (x5 : Int32) (x6 : Int32) => fM_merge_L9 N n σ x2 x3 x4 x5 x6) σ x2 x3 x4 x5 x6))))))))
def fM_merge (N : Nat) (σ : MSt) (x1 : Int32) (x2 : Int32) (x3 : Int32) : Option (MSt) := fM_merge_L9 N N σ x2 x3 x1 x2 x1
set_option maxRecDepth 100000 in
set_option maxHeartbeats 4000000 in
theorem wM_merge_J102 {p : Program} {l : Launch} {e : Env} {s : State} {m : MethodId} {args : Array Value} {below : List Frame} {meth : Method} {c : Code} {D : va_G} {κ : Nat → ClassId} {ρ : Nat → Nat} (C : MC p m c cX7_merge 8 s args wsX7_merge D κ) (hr : meth.sig.returnType = none) (hlk : meth.locks = false) (hD : DM (AM ρ s.heap.size) ρ) {N : Nat} {q : MSt} {K9 : MSt → Int32 → Int32 → Int32 → Int32 → Int32 → Option (MSt)} : ∀ (σ : MSt) (x2 : Int32) (x3 : Int32) (x5 : Int32) (x6 : Int32) (x7 : Int32) (y0 : Int32) (y1 : Int32) (H : Heap) (locs : List Loc) (ls : Array Slot), fM_merge_J102 N K9 σ x2 x3 x5 x6 x7 y0 y1 = some q → va_P D vwCl (cellsM κ ρ σ) H → va_S (AM ρ s.heap.size) s.heap H locs → lv_has ls 8 [(0, .ref (ρ 40)), (2, .int x2), (3, .int x3), (5, .int x5), (6, .int x6), (7, .int x7)] → (∀ (σ : MSt) (x2 : Int32) (x3 : Int32) (x4 : Int32) (x5 : Int32) (x6 : Int32) (H : Heap) (locs : List Loc) (ls : Array Slot), K9 σ x2 x3 x4 x5 x6 = some q → va_P D vwCl (cellsM κ ρ σ) H → va_S (AM ρ s.heap.size) s.heap H locs → lv_has ls 8 [(0, .ref (ρ 40)), (2, .int x2), (3, .int x3), (4, .int x4), (5, .int x5), (6, .int x6)] → W p l e ({ frames := 0, cells := 0, slots := 0, locals := 0 } : Room) s m args below meth c H locs 0 0 (MQ below (QM D κ ρ s.heap.size q none) args s 0 0 (AM ρ s.heap.size)) (F0 m 9 ls [])) → W p l e ({ frames := 0, cells := 0, slots := 0, locals := 0 } : Room) s m args below meth c H locs 0 0 (MQ below (QM D κ ρ s.heap.size q none) args s 0 0 (AM ρ s.heap.size)) (F0 m 102 ls [.int y1, .int y0]) := by
  have hx := C.1.1
  have hb := C.1.2.1
  have hts := C.1.2.2.2.2
  have hown := C.1.2.2.2.1
  intro σ x2 x3 x5 x6 x7 y0 y1 H locs ls h hP hS hl hK9
  unfold fM_merge_J102 at h
  refine lv_iadd hx hb dX7_merge_102 ?_
  refine lv_istore (lv' := [(4, .int (y0 + y1)), (0, .ref (ρ 40)), (2, .int x2), (3, .int x3), (5, .int x5), (6, .int x6), (7, .int x7)]) hx hb dX7_merge_103 hl (by decide) rfl (fun ls hl => ?_)
  refine lv_iload hx hb dX7_merge_105 (lv_at hl 4 rfl) ?_
  refine lv_iload hx hb dX7_merge_107 (lv_at hl 6 rfl) ?_
  refine lv_if_eq (tgt := 116) hx hb dX7_merge_109 (by decide) (fun c_109 => ?_) (fun c_109 => ?_)
  · have h := zz_pos c_109 h
    refine lv_iconst (v := (1 : Int32)) hx hb dX7_merge_116 (by decide) ?_
    refine lv_iadd hx hb dX7_merge_117 ?_
    refine lv_istore (lv' := [(5, .int (x5 + (1 : Int32))), (4, .int (y0 + y1)), (0, .ref (ρ 40)), (2, .int x2), (3, .int x3), (6, .int x6), (7, .int x7)]) hx hb dX7_merge_118 hl (by decide) rfl (fun ls hl => ?_)
    refine lv_iinc (v := (x6 + 1)) (lv' := [(6, .int (x6 + 1)), (5, .int (x5 + (1 : Int32))), (4, .int (y0 + y1)), (0, .ref (ρ 40)), (2, .int x2), (3, .int x3), (7, .int x7)]) hx hb dX7_merge_120 hl (k := 5) rfl rfl (by decide) rfl (fun ls hl => ?_)
    refine lv_goto (tgt := 9) hx hb dX7_merge_123 (by decide) ?_
    exact hK9 _ _ _ _ _ _ _ _ _ h hP hS (lv_sub hl [3, 4, 5, 2, 1, 0] rfl)
  · have h := zz_neg c_109 h
    refine lv_iconst (v := (0 : Int32)) hx hb dX7_merge_112 (by decide) ?_
    refine lv_goto (tgt := 117) hx hb dX7_merge_113 (by decide) ?_
    refine lv_iadd hx hb dX7_merge_117 ?_
    refine lv_istore (lv' := [(5, .int (x5 + (0 : Int32))), (4, .int (y0 + y1)), (0, .ref (ρ 40)), (2, .int x2), (3, .int x3), (6, .int x6), (7, .int x7)]) hx hb dX7_merge_118 hl (by decide) rfl (fun ls hl => ?_)
    refine lv_iinc (v := (x6 + 1)) (lv' := [(6, .int (x6 + 1)), (5, .int (x5 + (0 : Int32))), (4, .int (y0 + y1)), (0, .ref (ρ 40)), (2, .int x2), (3, .int x3), (7, .int x7)]) hx hb dX7_merge_120 hl (k := 5) rfl rfl (by decide) rfl (fun ls hl => ?_)
    refine lv_goto (tgt := 9) hx hb dX7_merge_123 (by decide) ?_
    exact hK9 _ _ _ _ _ _ _ _ _ h hP hS (lv_sub hl [3, 4, 5, 2, 1, 0] rfl)
set_option maxRecDepth 100000 in
set_option maxHeartbeats 4000000 in
theorem wM_merge_J89 {p : Program} {l : Launch} {e : Env} {s : State} {m : MethodId} {args : Array Value} {below : List Frame} {meth : Method} {c : Code} {D : va_G} {κ : Nat → ClassId} {ρ : Nat → Nat} (C : MC p m c cX7_merge 8 s args wsX7_merge D κ) (hr : meth.sig.returnType = none) (hlk : meth.locks = false) (hD : DM (AM ρ s.heap.size) ρ) {N : Nat} {q : MSt} {K9 : MSt → Int32 → Int32 → Int32 → Int32 → Int32 → Option (MSt)} : ∀ (σ : MSt) (x2 : Int32) (x3 : Int32) (x4 : Int32) (x5 : Int32) (x6 : Int32) (x7 : Int32) (y1 : Int32) (y2 : Int32) (H : Heap) (locs : List Loc) (ls : Array Slot), fM_merge_J89 N K9 σ x2 x3 x4 x5 x6 x7 y1 y2 = some q → va_P D vwCl (cellsM κ ρ σ) H → va_S (AM ρ s.heap.size) s.heap H locs → lv_has ls 8 [(0, .ref (ρ 40)), (2, .int x2), (3, .int x3), (4, .int x4), (5, .int x5), (6, .int x6), (7, .int x7)] → (∀ (σ : MSt) (x2 : Int32) (x3 : Int32) (x4 : Int32) (x5 : Int32) (x6 : Int32) (H : Heap) (locs : List Loc) (ls : Array Slot), K9 σ x2 x3 x4 x5 x6 = some q → va_P D vwCl (cellsM κ ρ σ) H → va_S (AM ρ s.heap.size) s.heap H locs → lv_has ls 8 [(0, .ref (ρ 40)), (2, .int x2), (3, .int x3), (4, .int x4), (5, .int x5), (6, .int x6)] → W p l e ({ frames := 0, cells := 0, slots := 0, locals := 0 } : Room) s m args below meth c H locs 0 0 (MQ below (QM D κ ρ s.heap.size q none) args s 0 0 (AM ρ s.heap.size)) (F0 m 9 ls [])) → W p l e ({ frames := 0, cells := 0, slots := 0, locals := 0 } : Room) s m args below meth c H locs 0 0 (MQ below (QM D κ ρ s.heap.size q none) args s 0 0 (AM ρ s.heap.size)) (F0 m 89 ls [.int y2, .int y1, .ref (ρ 34)]) := by
  have hx := C.1.1
  have hb := C.1.2.1
  have hts := C.1.2.2.2.2
  have hown := C.1.2.2.2.1
  intro σ x2 x3 x4 x5 x6 x7 y1 y2 H locs ls h hP hS hl hK9
  unfold fM_merge_J89 at h
  obtain ⟨b_89, h⟩ := chk_of h
  refine mS_34 C hP hD hS b_89 dX7_merge_89 (fun H locs hP hS => ?_)
  refine lv_iload hx hb dX7_merge_90 (lv_at hl 3 rfl) ?_
  refine lv_iload hx hb dX7_merge_92 (lv_at hl 6 rfl) ?_
  refine lv_if_eq (tgt := 101) hx hb dX7_merge_94 (by decide) (fun c_94 => ?_) (fun c_94 => ?_)
  · have h := zz_pos c_94 h
    refine lv_iconst (v := (0 : Int32)) hx hb dX7_merge_101 (by decide) ?_
    refine wM_merge_J102 C hr hlk hD _ _ _ _ _ _ _ _ _ _ _ h hP hS (lv_sub hl [0, 1, 2, 4, 5, 6] rfl) ?_
    intro σ x2 x3 x4 x5 x6 H locs ls h hP hS hl
    exact hK9 _ _ _ _ _ _ _ _ _ h hP hS (lv_sub hl [0, 1, 2, 3, 4, 5] rfl)
  · have h := zz_neg c_94 h
    refine lv_iconst (v := (1 : Int32)) hx hb dX7_merge_97 (by decide) ?_
    refine lv_goto (tgt := 102) hx hb dX7_merge_98 (by decide) ?_
    refine wM_merge_J102 C hr hlk hD _ _ _ _ _ _ _ _ _ _ _ h hP hS (lv_sub hl [0, 1, 2, 4, 5, 6] rfl) ?_
    intro σ x2 x3 x4 x5 x6 H locs ls h hP hS hl
    exact hK9 _ _ _ _ _ _ _ _ _ h hP hS (lv_sub hl [0, 1, 2, 3, 4, 5] rfl)
set_option maxRecDepth 100000 in
set_option maxHeartbeats 4000000 in
theorem wM_merge_J59 {p : Program} {l : Launch} {e : Env} {s : State} {m : MethodId} {args : Array Value} {below : List Frame} {meth : Method} {c : Code} {D : va_G} {κ : Nat → ClassId} {ρ : Nat → Nat} (C : MC p m c cX7_merge 8 s args wsX7_merge D κ) (hr : meth.sig.returnType = none) (hlk : meth.locks = false) (hD : DM (AM ρ s.heap.size) ρ) {N : Nat} {q : MSt} {K9 : MSt → Int32 → Int32 → Int32 → Int32 → Int32 → Option (MSt)} : ∀ (σ : MSt) (x2 : Int32) (x3 : Int32) (x4 : Int32) (x5 : Int32) (x6 : Int32) (y0 : Int32) (H : Heap) (locs : List Loc) (ls : Array Slot), fM_merge_J59 N K9 σ x2 x3 x4 x5 x6 y0 = some q → va_P D vwCl (cellsM κ ρ σ) H → va_S (AM ρ s.heap.size) s.heap H locs → lv_has ls 8 [(0, .ref (ρ 40)), (2, .int x2), (3, .int x3), (4, .int x4), (5, .int x5), (6, .int x6)] → (∀ (σ : MSt) (x2 : Int32) (x3 : Int32) (x4 : Int32) (x5 : Int32) (x6 : Int32) (H : Heap) (locs : List Loc) (ls : Array Slot), K9 σ x2 x3 x4 x5 x6 = some q → va_P D vwCl (cellsM κ ρ σ) H → va_S (AM ρ s.heap.size) s.heap H locs → lv_has ls 8 [(0, .ref (ρ 40)), (2, .int x2), (3, .int x3), (4, .int x4), (5, .int x5), (6, .int x6)] → W p l e ({ frames := 0, cells := 0, slots := 0, locals := 0 } : Room) s m args below meth c H locs 0 0 (MQ below (QM D κ ρ s.heap.size q none) args s 0 0 (AM ρ s.heap.size)) (F0 m 9 ls [])) → W p l e ({ frames := 0, cells := 0, slots := 0, locals := 0 } : Room) s m args below meth c H locs 0 0 (MQ below (QM D κ ρ s.heap.size q none) args s 0 0 (AM ρ s.heap.size)) (F0 m 59 ls [.int y0]) := by
  have hx := C.1.1
  have hb := C.1.2.1
  have hts := C.1.2.2.2.2
  have hown := C.1.2.2.2.1
  have k_114 := hts (.fieldLink RX7 114 "PlanCabinetModel" "sortAt" "[I") (by decide +kernel)
  have k_117 := hts (.fieldLink RX7 117 "PlanCabinetModel" "merged" "[I") (by decide +kernel)
  have in_7 : ∀ w ∈ wsX70, w ∈ wsX7_merge := by decide +kernel
  intro σ x2 x3 x4 x5 x6 y0 H locs ls h hP hS hl hK9
  unfold fM_merge_J59 at h
  refine lv_istore (lv' := [(7, .int y0), (0, .ref (ρ 40)), (2, .int x2), (3, .int x3), (4, .int x4), (5, .int x5), (6, .int x6)]) hx hb dX7_merge_59 hl (by decide) rfl (fun ls hl => ?_)
  refine lv_aload_n hx hb dX7_merge_61 rfl (lv_at hl 1 rfl) ?_
  refine mG_34 C in_7 hP k_117 dX7_merge_62 ?_
  refine lv_iload hx hb dX7_merge_65 (lv_at hl 6 rfl) ?_
  refine lv_iload hx hb dX7_merge_67 (lv_at hl 0 rfl) ?_
  refine lv_if_eq (tgt := 82) hx hb dX7_merge_69 (by decide) (fun c_69 => ?_) (fun c_69 => ?_)
  · have h := zz_pos c_69 h
    refine lv_aload_n hx hb dX7_merge_82 rfl (lv_at hl 1 rfl) ?_
    refine mG_33 C in_7 hP k_114 dX7_merge_83 ?_
    refine lv_iload hx hb dX7_merge_86 (lv_at hl 5 rfl) ?_
    obtain ⟨b_88, h⟩ := chk_of h
    refine mL_33 C hP b_88 dX7_merge_88 ?_
    refine wM_merge_J89 C hr hlk hD _ _ _ _ _ _ _ _ _ _ _ _ h hP hS (lv_sub hl [1, 2, 3, 4, 5, 6, 0] rfl) ?_
    intro σ x2 x3 x4 x5 x6 H locs ls h hP hS hl
    exact hK9 _ _ _ _ _ _ _ _ _ h hP hS (lv_sub hl [0, 1, 2, 3, 4, 5] rfl)
  · have h := zz_neg c_69 h
    refine lv_aload_n hx hb dX7_merge_72 rfl (lv_at hl 1 rfl) ?_
    refine mG_33 C in_7 hP k_114 dX7_merge_73 ?_
    refine lv_iload hx hb dX7_merge_76 (lv_at hl 4 rfl) ?_
    obtain ⟨b_78, h⟩ := chk_of h
    refine mL_33 C hP b_78 dX7_merge_78 ?_
    refine lv_goto (tgt := 89) hx hb dX7_merge_79 (by decide) ?_
    refine wM_merge_J89 C hr hlk hD _ _ _ _ _ _ _ _ _ _ _ _ h hP hS (lv_sub hl [1, 2, 3, 4, 5, 6, 0] rfl) ?_
    intro σ x2 x3 x4 x5 x6 H locs ls h hP hS hl
    exact hK9 _ _ _ _ _ _ _ _ _ h hP hS (lv_sub hl [0, 1, 2, 3, 4, 5] rfl)
set_option maxRecDepth 100000 in
set_option maxHeartbeats 4000000 in
theorem wM_merge_J54 {p : Program} {l : Launch} {e : Env} {s : State} {m : MethodId} {args : Array Value} {below : List Frame} {meth : Method} {c : Code} {D : va_G} {κ : Nat → ClassId} {ρ : Nat → Nat} (C : MC p m c cX7_merge 8 s args wsX7_merge D κ) (hr : meth.sig.returnType = none) (hlk : meth.locks = false) (hD : DM (AM ρ s.heap.size) ρ) {N : Nat} {q : MSt} {K9 : MSt → Int32 → Int32 → Int32 → Int32 → Int32 → Option (MSt)} : ∀ (σ : MSt) (x2 : Int32) (x3 : Int32) (x4 : Int32) (x5 : Int32) (x6 : Int32) (H : Heap) (locs : List Loc) (ls : Array Slot), fM_merge_J54 N K9 σ x2 x3 x4 x5 x6 = some q → va_P D vwCl (cellsM κ ρ σ) H → va_S (AM ρ s.heap.size) s.heap H locs → lv_has ls 8 [(0, .ref (ρ 40)), (2, .int x2), (3, .int x3), (4, .int x4), (5, .int x5), (6, .int x6)] → (∀ (σ : MSt) (x2 : Int32) (x3 : Int32) (x4 : Int32) (x5 : Int32) (x6 : Int32) (H : Heap) (locs : List Loc) (ls : Array Slot), K9 σ x2 x3 x4 x5 x6 = some q → va_P D vwCl (cellsM κ ρ σ) H → va_S (AM ρ s.heap.size) s.heap H locs → lv_has ls 8 [(0, .ref (ρ 40)), (2, .int x2), (3, .int x3), (4, .int x4), (5, .int x5), (6, .int x6)] → W p l e ({ frames := 0, cells := 0, slots := 0, locals := 0 } : Room) s m args below meth c H locs 0 0 (MQ below (QM D κ ρ s.heap.size q none) args s 0 0 (AM ρ s.heap.size)) (F0 m 9 ls [])) → W p l e ({ frames := 0, cells := 0, slots := 0, locals := 0 } : Room) s m args below meth c H locs 0 0 (MQ below (QM D κ ρ s.heap.size q none) args s 0 0 (AM ρ s.heap.size)) (F0 m 54 ls []) := by
  have hx := C.1.1
  have hb := C.1.2.1
  have hts := C.1.2.2.2.2
  have hown := C.1.2.2.2.1
  intro σ x2 x3 x4 x5 x6 H locs ls h hP hS hl hK9
  unfold fM_merge_J54 at h
  refine lv_iconst (v := (1 : Int32)) hx hb dX7_merge_54 (by decide) ?_
  refine lv_goto (tgt := 59) hx hb dX7_merge_55 (by decide) ?_
  refine wM_merge_J59 C hr hlk hD _ _ _ _ _ _ _ _ _ _ h hP hS (lv_sub hl [0, 1, 2, 3, 4, 5] rfl) ?_
  intro σ x2 x3 x4 x5 x6 H locs ls h hP hS hl
  exact hK9 _ _ _ _ _ _ _ _ _ h hP hS (lv_sub hl [0, 1, 2, 3, 4, 5] rfl)
set_option maxRecDepth 100000 in
set_option maxHeartbeats 4000000 in
theorem wM_merge_J58 {p : Program} {l : Launch} {e : Env} {s : State} {m : MethodId} {args : Array Value} {below : List Frame} {meth : Method} {c : Code} {D : va_G} {κ : Nat → ClassId} {ρ : Nat → Nat} (C : MC p m c cX7_merge 8 s args wsX7_merge D κ) (hr : meth.sig.returnType = none) (hlk : meth.locks = false) (hD : DM (AM ρ s.heap.size) ρ) {N : Nat} {q : MSt} {K9 : MSt → Int32 → Int32 → Int32 → Int32 → Int32 → Option (MSt)} : ∀ (σ : MSt) (x2 : Int32) (x3 : Int32) (x4 : Int32) (x5 : Int32) (x6 : Int32) (H : Heap) (locs : List Loc) (ls : Array Slot), fM_merge_J58 N K9 σ x2 x3 x4 x5 x6 = some q → va_P D vwCl (cellsM κ ρ σ) H → va_S (AM ρ s.heap.size) s.heap H locs → lv_has ls 8 [(0, .ref (ρ 40)), (2, .int x2), (3, .int x3), (4, .int x4), (5, .int x5), (6, .int x6)] → (∀ (σ : MSt) (x2 : Int32) (x3 : Int32) (x4 : Int32) (x5 : Int32) (x6 : Int32) (H : Heap) (locs : List Loc) (ls : Array Slot), K9 σ x2 x3 x4 x5 x6 = some q → va_P D vwCl (cellsM κ ρ σ) H → va_S (AM ρ s.heap.size) s.heap H locs → lv_has ls 8 [(0, .ref (ρ 40)), (2, .int x2), (3, .int x3), (4, .int x4), (5, .int x5), (6, .int x6)] → W p l e ({ frames := 0, cells := 0, slots := 0, locals := 0 } : Room) s m args below meth c H locs 0 0 (MQ below (QM D κ ρ s.heap.size q none) args s 0 0 (AM ρ s.heap.size)) (F0 m 9 ls [])) → W p l e ({ frames := 0, cells := 0, slots := 0, locals := 0 } : Room) s m args below meth c H locs 0 0 (MQ below (QM D κ ρ s.heap.size q none) args s 0 0 (AM ρ s.heap.size)) (F0 m 58 ls []) := by
  have hx := C.1.1
  have hb := C.1.2.1
  have hts := C.1.2.2.2.2
  have hown := C.1.2.2.2.1
  intro σ x2 x3 x4 x5 x6 H locs ls h hP hS hl hK9
  unfold fM_merge_J58 at h
  refine lv_iconst (v := (0 : Int32)) hx hb dX7_merge_58 (by decide) ?_
  refine wM_merge_J59 C hr hlk hD _ _ _ _ _ _ _ _ _ _ h hP hS (lv_sub hl [0, 1, 2, 3, 4, 5] rfl) ?_
  intro σ x2 x3 x4 x5 x6 H locs ls h hP hS hl
  exact hK9 _ _ _ _ _ _ _ _ _ h hP hS (lv_sub hl [0, 1, 2, 3, 4, 5] rfl)
set_option maxRecDepth 100000 in
set_option maxHeartbeats 4000000 in
theorem wM_merge_L9 {p : Program} {l : Launch} {e : Env} {s : State} {m : MethodId} {args : Array Value} {below : List Frame} {meth : Method} {c : Code} {D : va_G} {κ : Nat → ClassId} {ρ : Nat → Nat} (C : MC p m c cX7_merge 8 s args wsX7_merge D κ) (hr : meth.sig.returnType = none) (hlk : meth.locks = false) (hD : DM (AM ρ s.heap.size) ρ) {N : Nat} {q : MSt} : ∀ (n : Nat) (σ : MSt) (x2 : Int32) (x3 : Int32) (x4 : Int32) (x5 : Int32) (x6 : Int32) (H : Heap) (locs : List Loc) (ls : Array Slot), fM_merge_L9 N n σ x2 x3 x4 x5 x6 = some q → va_P D vwCl (cellsM κ ρ σ) H → va_S (AM ρ s.heap.size) s.heap H locs → lv_has ls 8 [(0, .ref (ρ 40)), (2, .int x2), (3, .int x3), (4, .int x4), (5, .int x5), (6, .int x6)] → W p l e ({ frames := 0, cells := 0, slots := 0, locals := 0 } : Room) s m args below meth c H locs 0 0 (MQ below (QM D κ ρ s.heap.size q none) args s 0 0 (AM ρ s.heap.size)) (F0 m 9 ls []) := by
  have hx := C.1.1
  have hb := C.1.2.1
  have hts := C.1.2.2.2.2
  have hown := C.1.2.2.2.1
  have k_111 := hts (.fieldLink RX7 111 "PlanCabinetModel" "sortKey" "[I") (by decide +kernel)
  have k_114 := hts (.fieldLink RX7 114 "PlanCabinetModel" "sortAt" "[I") (by decide +kernel)
  have in_7 : ∀ w ∈ wsX70, w ∈ wsX7_merge := by decide +kernel
  intro n
  induction n with
  | zero =>
    intro σ x2 x3 x4 x5 x6 H locs ls h hP hS hl
    rw [fM_merge_L9] at h
    cases h
  | succ n ih =>
    intro σ x2 x3 x4 x5 x6 H locs ls h hP hS hl
    rw [fM_merge_L9] at h
    refine lv_iload hx hb dX7_merge_9 (lv_at hl 5 rfl) ?_
    refine lv_iload_n hx hb dX7_merge_11 rfl (lv_at hl 2 rfl) ?_
    refine lv_icmp_ge (tgt := 126) hx hb dX7_merge_12 (by decide) (fun c_12 => ?_) (fun c_12 => ?_)
    · have h := zz_pos c_12 h
      exact W.vret hx hb hr (fun t ht hW => ⟨rfl, by rw [ht, ← some_of h]; exact hP, hS.F ht⟩) hS.2.2 dX7_merge_126
    · have h := zz_neg c_12 h
      refine lv_iload hx hb dX7_merge_15 (lv_at hl 4 rfl) ?_
      refine lv_iload_n hx hb dX7_merge_17 rfl (lv_at hl 2 rfl) ?_
      refine lv_icmp_eq (tgt := 54) hx hb dX7_merge_18 (by decide) (fun c_18 => ?_) (fun c_18 => ?_)
      · have h := zz_pos c_18 h
        refine wM_merge_J54 C hr hlk hD _ _ _ _ _ _ _ _ _ h hP hS (lv_sub hl [0, 1, 2, 3, 4, 5] rfl) ?_
        intro σ x2 x3 x4 x5 x6 H locs ls h hP hS hl
        exact ih _ _ _ _ _ _ _ _ _ h hP hS (lv_sub hl [0, 1, 2, 3, 4, 5] rfl)
      · have h := zz_neg c_18 h
        refine lv_iload hx hb dX7_merge_21 (lv_at hl 3 rfl) ?_
        refine lv_iload_n hx hb dX7_merge_23 rfl (lv_at hl 1 rfl) ?_
        refine lv_icmp_ge (tgt := 58) hx hb dX7_merge_24 (by decide) (fun c_24 => ?_) (fun c_24 => ?_)
        · have h := zz_pos c_24 h
          refine wM_merge_J58 C hr hlk hD _ _ _ _ _ _ _ _ _ h hP hS (lv_sub hl [0, 1, 2, 3, 4, 5] rfl) ?_
          intro σ x2 x3 x4 x5 x6 H locs ls h hP hS hl
          exact ih _ _ _ _ _ _ _ _ _ h hP hS (lv_sub hl [0, 1, 2, 3, 4, 5] rfl)
        · have h := zz_neg c_24 h
          refine lv_aload_n hx hb dX7_merge_27 rfl (lv_at hl 0 rfl) ?_
          refine mG_32 C in_7 hP k_111 dX7_merge_28 ?_
          refine lv_aload_n hx hb dX7_merge_31 rfl (lv_at hl 0 rfl) ?_
          refine mG_33 C in_7 hP k_114 dX7_merge_32 ?_
          refine lv_iload hx hb dX7_merge_35 (lv_at hl 3 rfl) ?_
          obtain ⟨b_37, h⟩ := chk_of h
          refine mL_33 C hP b_37 dX7_merge_37 ?_
          obtain ⟨b_38, h⟩ := chk_of h
          refine mL_32 C hP b_38 dX7_merge_38 ?_
          refine lv_aload_n hx hb dX7_merge_39 rfl (lv_at hl 0 rfl) ?_
          refine mG_32 C in_7 hP k_111 dX7_merge_40 ?_
          refine lv_aload_n hx hb dX7_merge_43 rfl (lv_at hl 0 rfl) ?_
          refine mG_33 C in_7 hP k_114 dX7_merge_44 ?_
          refine lv_iload hx hb dX7_merge_47 (lv_at hl 4 rfl) ?_
          obtain ⟨b_49, h⟩ := chk_of h
          refine mL_33 C hP b_49 dX7_merge_49 ?_
          obtain ⟨b_50, h⟩ := chk_of h
          refine mL_32 C hP b_50 dX7_merge_50 ?_
          refine lv_icmp_gt (tgt := 58) hx hb dX7_merge_51 (by decide) (fun c_51 => ?_) (fun c_51 => ?_)
          · have h := zz_pos c_51 h
            refine wM_merge_J58 C hr hlk hD _ _ _ _ _ _ _ _ _ h hP hS (lv_sub hl [0, 1, 2, 3, 4, 5] rfl) ?_
            intro σ x2 x3 x4 x5 x6 H locs ls h hP hS hl
            exact ih _ _ _ _ _ _ _ _ _ h hP hS (lv_sub hl [0, 1, 2, 3, 4, 5] rfl)
          · have h := zz_neg c_51 h
            refine wM_merge_J54 C hr hlk hD _ _ _ _ _ _ _ _ _ h hP hS (lv_sub hl [0, 1, 2, 3, 4, 5] rfl) ?_
            intro σ x2 x3 x4 x5 x6 H locs ls h hP hS hl
            exact ih _ _ _ _ _ _ _ _ _ h hP hS (lv_sub hl [0, 1, 2, 3, 4, 5] rfl)
set_option maxRecDepth 100000 in
set_option maxHeartbeats 4000000 in
theorem cM_merge {l : Launch} {D : va_G} {κ : Nat → ClassId} {ρ : Nat → Nat} {sz : Nat} {N : Nat} {σ : MSt} {x1 : Int32} {x2 : Int32} {x3 : Int32} {q : MSt} (h : fM_merge N σ x1 x2 x3 = some q) : Met l yX7_merge wsX7_merge ({ frames := 0, cells := 0, slots := 0, locals := 0 } : Room) (va_Pc [.ref (ρ 40), .int x1, .int x2, .int x3] (PM D κ ρ sz σ)) (QM D κ ρ sz q none) 0 0 (AM ρ sz) := by
  refine mMetM (ret := none) (by decide) rfl rfl (Nat.le_of_ble_eq_true rfl) ?_
  intro p e s m below meth c ls C hr hlk hD hP hl
  have hS : va_S (AM ρ s.heap.size) s.heap s.heap [] := va_S.rf
  have hl : lv_has ls 8 [(0, .ref (ρ 40)), (1, .int x1), (2, .int x2), (3, .int x3)] := hl
  unfold fM_merge at h
  have hx := C.1.1
  have hb := C.1.2.1
  have hts := C.1.2.2.2.2
  have hown := C.1.2.2.2.1
  refine lv_iload_n hx hb dX7_merge_0 rfl (lv_at hl 1 rfl) ?_
  refine lv_istore (lv' := [(4, .int x1), (0, .ref (ρ 40)), (1, .int x1), (2, .int x2), (3, .int x3)]) hx hb dX7_merge_1 hl (by decide) rfl (fun ls hl => ?_)
  refine lv_iload_n hx hb dX7_merge_3 rfl (lv_at hl 3 rfl) ?_
  refine lv_istore (lv' := [(5, .int x2), (4, .int x1), (0, .ref (ρ 40)), (1, .int x1), (2, .int x2), (3, .int x3)]) hx hb dX7_merge_4 hl (by decide) rfl (fun ls hl => ?_)
  refine lv_iload_n hx hb dX7_merge_6 rfl (lv_at hl 3 rfl) ?_
  refine lv_istore (lv' := [(6, .int x1), (5, .int x2), (4, .int x1), (0, .ref (ρ 40)), (1, .int x1), (2, .int x2), (3, .int x3)]) hx hb dX7_merge_7 hl (by decide) rfl (fun ls hl => ?_)
  exact wM_merge_L9 C hr hlk hD _ _ _ _ _ _ _ _ _ _ h hP hS (lv_sub hl [3, 5, 6, 2, 1, 0] rfl)
def fM_sort_L28 (N : Nat) (K76 : MSt → Int32 → Int32 → Option (MSt)) : Nat → MSt → Int32 → Int32 → Int32 → Int32 → Int32 → Option (MSt)
  | 0, _, _, _, _, _, _ => none
  | n + 1, σ, x1, x2, x3, x4, x5 => (if x3 ≤ x5 then K76 σ x3 x4 else chk x5 20736 (chk ((x4 + ((4 : Int32) * x5)) + x1) 414720 ((fM_of N (sA σ 33 x5.toNatClampNeg x5) x1 ((sA σ 33 x5.toNatClampNeg x5).2.2.1 29 ((x4 + ((4 : Int32) * x5)) + x1).toNatClampNeg) x2).bind fun r_66 => chk x5 20736 (fM_sort_L28 N K76 n (sA (sA σ 33 x5.toNatClampNeg x5) 32 x5.toNatClampNeg r_66) x1 x2 x3 x4 (x5 + 1)))))
def fM_sort_J137 (N : Nat) (K88 : MSt → Int32 → Int32 → Int32 → Int32 → Option (MSt)) (σ : MSt) (x3 : Int32) (x4 : Int32) (x5 : Int32) (x6 : Int32) (y1 : Int32) (y2 : Int32) (y3 : Int32) : Option (MSt) := (fM_merge N σ y1 y2 y3).bind fun r_137 => K88 r_137 x3 x4 x5 (x6 + ((2 : Int32) * x5))
def fM_sort_J115 (N : Nat) (K88 : MSt → Int32 → Int32 → Int32 → Int32 → Option (MSt)) (σ : MSt) (x3 : Int32) (x4 : Int32) (x5 : Int32) (x6 : Int32) (y1 : Int32) (y2 : Int32) : Option (MSt) := (if x3 ≤ (x6 + ((2 : Int32) * x5)) then fM_sort_J137 N (fun (σ : MSt) (x3 : Int32) (x4 : Int32) (x5 : Int32) (x6 : Int32) => K88 σ x3 x4 x5 x6) σ x3 x4 x5 x6 y1 y2 x3 else fM_sort_J137 N (fun (σ : MSt) (x3 : Int32) (x4 : Int32) (x5 : Int32) (x6 : Int32) => K88 σ x3 x4 x5 x6) σ x3 x4 x5 x6 y1 y2 (x6 + ((2 : Int32) * x5)))
def fM_sort_L88 (N : Nat) (K152 : MSt → Int32 → Int32 → Int32 → Option (MSt)) : Nat → MSt → Int32 → Int32 → Int32 → Int32 → Option (MSt)
  | 0, _, _, _, _, _ => none
  | n + 1, σ, x3, x4, x5, x6 => (if x3 ≤ x6 then K152 σ x3 x4 x5 else (if x3 ≤ (x6 + x5) then fM_sort_J115 N (fun (σ : MSt) (x3 : Int32) (x4 : Int32) (x5 : Int32) (x6 : Int32) => fM_sort_L88 N K152 n σ x3 x4 x5 x6) σ x3 x4 x5 x6 x6 x3 else fM_sort_J115 N (fun (σ : MSt) (x3 : Int32) (x4 : Int32) (x5 : Int32) (x6 : Int32) => fM_sort_L88 N K152 n σ x3 x4 x5 x6) σ x3 x4 x5 x6 x6 (x6 + x5)))
def fM_sort_L155 (N : Nat) (K181 : MSt → Int32 → Int32 → Int32 → Option (MSt)) : Nat → MSt → Int32 → Int32 → Int32 → Int32 → Option (MSt)
  | 0, _, _, _, _, _ => none
  | n + 1, σ, x3, x4, x5, x6 => (if x3 ≤ x6 then K181 σ x3 x4 x5 else chk x6 20736 (chk x6 20736 (fM_sort_L155 N K181 n (sA σ 33 x6.toNatClampNeg (σ.2.2.1 34 x6.toNatClampNeg)) x3 x4 x5 (x6 + 1))))
def fM_sort_L79 (N : Nat) (K190 : MSt → Int32 → Int32 → Option (MSt)) : Nat → MSt → Int32 → Int32 → Int32 → Option (MSt)
  | 0, _, _, _, _ => none
  | n + 1, σ, x3, x4, x5 => (if x3 ≤ x5 then K190 σ x3 x4 else fM_sort_L88 N (fun (σ : MSt) (x3 : Int32) (x4 : Int32) (x5 : Int32) => fM_sort_L155 N (fun (σ : MSt) (x3 : Int32) (x4 : Int32) (x5 : Int32) => fM_sort_L79 N K190 n σ x3 x4 (x5 * (2 : Int32))) N σ x3 x4 x5 (0 : Int32)) N σ x3 x4 x5 (0 : Int32))
def fM_sort_L202 (N : Nat) (K246 : MSt → Int32 → Int32 → Int32 → Option (MSt)) : Nat → MSt → Int32 → Int32 → Int32 → Int32 → Option (MSt)
  | 0, _, _, _, _, _ => none
  | n + 1, σ, x3, x4, x5, x6 => (if (4 : Int32) ≤ x6 then K246 σ x3 x4 x5 else chk x5 20736 (chk ((x4 + ((4 : Int32) * (σ.2.2.1 33 x5.toNatClampNeg))) + x6) 414720 (chk (((4 : Int32) * x5) + x6) 82944 (fM_sort_L202 N K246 n (sA σ 35 (((4 : Int32) * x5) + x6).toNatClampNeg (σ.2.2.1 29 ((x4 + ((4 : Int32) * (σ.2.2.1 33 x5.toNatClampNeg))) + x6).toNatClampNeg)) x3 x4 x5 (x6 + 1)))))
def fM_sort_L193 (N : Nat) (K252 : MSt → Int32 → Int32 → Option (MSt)) : Nat → MSt → Int32 → Int32 → Int32 → Option (MSt)
  | 0, _, _, _, _ => none
  | n + 1, σ, x3, x4, x5 => (if x3 ≤ x5 then K252 σ x3 x4 else fM_sort_L202 N (fun (σ : MSt) (x3 : Int32) (x4 : Int32) (x5 : Int32) => fM_sort_L193 N K252 n σ x3 x4 (x5 + 1)) N σ x3 x4 x5 (0 : Int32))
def fM_sort_L255 (N : Nat) : Nat → MSt → Int32 → Int32 → Int32 → Option (MSt)
  | 0, _, _, _, _ => none
  | n + 1, σ, x3, x4, x5 => (if ((4 : Int32) * x3) ≤ x5 then some σ else chk x5 82944 (chk (x4 + x5) 414720 (fM_sort_L255 N n (sA σ 29 (x4 + x5).toNatClampNeg (σ.2.2.1 35 x5.toNatClampNeg)) x3 x4 (x5 + 1))))
def fM_sort (N : Nat) (σ : MSt) (x1 : Int32) (x2 : Int32) : Option (MSt) := chk ((σ.1 36) - (1 : Int32)) 5 ((fM_spot N σ ((σ.1 36) - (1 : Int32)) (0 : Int32)).bind fun r_20 => fM_sort_L28 N (fun (σ : MSt) (x3 : Int32) (x4 : Int32) => fM_sort_L79 N (fun (σ : MSt) (x3 : Int32) (x4 : Int32) => fM_sort_L193 N (fun (σ : MSt) (x3 : Int32) (x4 : Int32) => fM_sort_L255 N N σ x3 x4 (0 : Int32)) N σ x3 x4 (0 : Int32)) N σ x3 x4 (1 : Int32)) N σ x1 x2 (σ.2.2.1 30 ((σ.1 36) - (1 : Int32)).toNatClampNeg) r_20 (0 : Int32))
set_option maxRecDepth 100000 in
set_option maxHeartbeats 4000000 in
theorem wM_sort_L28 {p : Program} {l : Launch} {e : Env} {s : State} {m : MethodId} {args : Array Value} {below : List Frame} {meth : Method} {c : Code} {D : va_G} {κ : Nat → ClassId} {ρ : Nat → Nat} (C : MC p m c cX7_sort 7 s args wsX7_sort D κ) (hr : meth.sig.returnType = none) (hlk : meth.locks = false) (hD : DM (AM ρ s.heap.size) ρ) {N : Nat} {q : MSt} {K76 : MSt → Int32 → Int32 → Option (MSt)} : ∀ (n : Nat) (σ : MSt) (x1 : Int32) (x2 : Int32) (x3 : Int32) (x4 : Int32) (x5 : Int32) (H : Heap) (locs : List Loc) (ls : Array Slot), fM_sort_L28 N K76 n σ x1 x2 x3 x4 x5 = some q → va_P D vwCl (cellsM κ ρ σ) H → va_S (AM ρ s.heap.size) s.heap H locs → lv_has ls 7 [(0, .ref (ρ 40)), (1, .int x1), (2, .int x2), (3, .int x3), (4, .int x4), (5, .int x5)] → (∀ (σ : MSt) (x3 : Int32) (x4 : Int32) (H : Heap) (locs : List Loc) (ls : Array Slot), K76 σ x3 x4 = some q → va_P D vwCl (cellsM κ ρ σ) H → va_S (AM ρ s.heap.size) s.heap H locs → lv_has ls 7 [(0, .ref (ρ 40)), (3, .int x3), (4, .int x4)] → W p l e ({ frames := 1, cells := 0, slots := 0, locals := 27 } : Room) s m args below meth c H locs 0 0 (MQ below (QM D κ ρ s.heap.size q none) args s 0 0 (AM ρ s.heap.size)) (F0 m 76 ls [])) → W p l e ({ frames := 1, cells := 0, slots := 0, locals := 27 } : Room) s m args below meth c H locs 0 0 (MQ below (QM D κ ρ s.heap.size q none) args s 0 0 (AM ρ s.heap.size)) (F0 m 28 ls []) := by
  have hx := C.1.1
  have hb := C.1.2.1
  have hts := C.1.2.2.2.2
  have hown := C.1.2.2.2.1
  have k_102 := hts (.fieldLink RX7 102 "PlanCabinetModel" "lists" "[I") (by decide +kernel)
  have k_111 := hts (.fieldLink RX7 111 "PlanCabinetModel" "sortKey" "[I") (by decide +kernel)
  have k_114 := hts (.fieldLink RX7 114 "PlanCabinetModel" "sortAt" "[I") (by decide +kernel)
  have in_7 : ∀ w ∈ wsX70, w ∈ wsX7_sort := by decide +kernel
  intro n
  induction n with
  | zero =>
    intro σ x1 x2 x3 x4 x5 H locs ls h hP hS hl hK76
    rw [fM_sort_L28] at h
    cases h
  | succ n ih =>
    intro σ x1 x2 x3 x4 x5 H locs ls h hP hS hl hK76
    rw [fM_sort_L28] at h
    refine lv_iload hx hb dX7_sort_28 (lv_at hl 5 rfl) ?_
    refine lv_iload_n hx hb dX7_sort_30 rfl (lv_at hl 3 rfl) ?_
    refine lv_icmp_ge (tgt := 76) hx hb dX7_sort_31 (by decide) (fun c_31 => ?_) (fun c_31 => ?_)
    · have h := zz_pos c_31 h
      exact hK76 _ _ _ _ _ _ h hP hS (lv_sub hl [0, 3, 4] rfl)
    · have h := zz_neg c_31 h
      refine lv_aload_n hx hb dX7_sort_34 rfl (lv_at hl 0 rfl) ?_
      refine mG_33 C in_7 hP k_114 dX7_sort_35 ?_
      refine lv_iload hx hb dX7_sort_38 (lv_at hl 5 rfl) ?_
      refine lv_iload hx hb dX7_sort_40 (lv_at hl 5 rfl) ?_
      obtain ⟨b_42, h⟩ := chk_of h
      refine mS_33 C hP hD hS b_42 dX7_sort_42 (fun H locs hP hS => ?_)
      refine lv_aload_n hx hb dX7_sort_43 rfl (lv_at hl 0 rfl) ?_
      refine mG_32 C in_7 hP k_111 dX7_sort_44 ?_
      refine lv_iload hx hb dX7_sort_47 (lv_at hl 5 rfl) ?_
      refine lv_aload_n hx hb dX7_sort_49 rfl (lv_at hl 0 rfl) ?_
      refine lv_iload_n hx hb dX7_sort_50 rfl (lv_at hl 1 rfl) ?_
      refine lv_aload_n hx hb dX7_sort_51 rfl (lv_at hl 0 rfl) ?_
      refine mG_29 C in_7 hP k_102 dX7_sort_52 ?_
      refine lv_iload hx hb dX7_sort_55 (lv_at hl 4 rfl) ?_
      refine lv_iconst (v := (4 : Int32)) hx hb dX7_sort_57 (by decide) ?_
      refine lv_iload hx hb dX7_sort_58 (lv_at hl 5 rfl) ?_
      refine lv_imul hx hb dX7_sort_60 ?_
      refine lv_iadd hx hb dX7_sort_61 ?_
      refine lv_iload_n hx hb dX7_sort_62 rfl (lv_at hl 1 rfl) ?_
      refine lv_iadd hx hb dX7_sort_63 ?_
      obtain ⟨b_64, h⟩ := chk_of h
      refine mL_29 C hP b_64 dX7_sort_64 ?_
      refine lv_iload_n hx hb dX7_sort_65 rfl (lv_at hl 2 rfl) ?_
      obtain ⟨r_66, e_66, h⟩ := bnd_of h
      refine callP (W.runV (As := [.int x1, .int ((sA σ 33 x5.toNatClampNeg x5).2.2.1 29 ((x4 + ((4 : Int32) * x5)) + x1).toNatClampNeg), .int x2]) C.1 (cM_of e_66) (cwV 3 hts gX7_sort_X7_of rfl rfl rfl (by decide +kernel) ⟨by decide, by decide⟩) (mPreR C.2 hP _) rfl rfl hl.1 rfl (lv_room (Nat.le_of_ble_eq_true rfl)) dX7_sort_66 ⟨Nat.zero_le _, Nat.zero_le _⟩) ?_
      obtain ⟨b_69, h⟩ := chk_of h
      refine mS_32 C hP hD hS b_69 dX7_sort_69 (fun H locs hP hS => ?_)
      refine lv_iinc (v := (x5 + 1)) (lv' := [(5, .int (x5 + 1)), (0, .ref (ρ 40)), (1, .int x1), (2, .int x2), (3, .int x3), (4, .int x4)]) hx hb dX7_sort_70 hl (k := 5) rfl rfl (by decide) rfl (fun ls hl => ?_)
      refine lv_goto (tgt := 28) hx hb dX7_sort_73 (by decide) ?_
      exact ih _ _ _ _ _ _ _ _ _ h hP hS (lv_sub hl [1, 2, 3, 4, 5, 0] rfl) hK76
set_option maxRecDepth 100000 in
set_option maxHeartbeats 4000000 in
theorem wM_sort_J137 {p : Program} {l : Launch} {e : Env} {s : State} {m : MethodId} {args : Array Value} {below : List Frame} {meth : Method} {c : Code} {D : va_G} {κ : Nat → ClassId} {ρ : Nat → Nat} (C : MC p m c cX7_sort 7 s args wsX7_sort D κ) (hr : meth.sig.returnType = none) (hlk : meth.locks = false) (hD : DM (AM ρ s.heap.size) ρ) {N : Nat} {q : MSt} {K88 : MSt → Int32 → Int32 → Int32 → Int32 → Option (MSt)} : ∀ (σ : MSt) (x3 : Int32) (x4 : Int32) (x5 : Int32) (x6 : Int32) (y1 : Int32) (y2 : Int32) (y3 : Int32) (H : Heap) (locs : List Loc) (ls : Array Slot), fM_sort_J137 N K88 σ x3 x4 x5 x6 y1 y2 y3 = some q → va_P D vwCl (cellsM κ ρ σ) H → va_S (AM ρ s.heap.size) s.heap H locs → lv_has ls 7 [(0, .ref (ρ 40)), (3, .int x3), (4, .int x4), (5, .int x5), (6, .int x6)] → (∀ (σ : MSt) (x3 : Int32) (x4 : Int32) (x5 : Int32) (x6 : Int32) (H : Heap) (locs : List Loc) (ls : Array Slot), K88 σ x3 x4 x5 x6 = some q → va_P D vwCl (cellsM κ ρ σ) H → va_S (AM ρ s.heap.size) s.heap H locs → lv_has ls 7 [(0, .ref (ρ 40)), (3, .int x3), (4, .int x4), (5, .int x5), (6, .int x6)] → W p l e ({ frames := 1, cells := 0, slots := 0, locals := 27 } : Room) s m args below meth c H locs 0 0 (MQ below (QM D κ ρ s.heap.size q none) args s 0 0 (AM ρ s.heap.size)) (F0 m 88 ls [])) → W p l e ({ frames := 1, cells := 0, slots := 0, locals := 27 } : Room) s m args below meth c H locs 0 0 (MQ below (QM D κ ρ s.heap.size q none) args s 0 0 (AM ρ s.heap.size)) (F0 m 137 ls [.int y3, .int y2, .int y1, .ref (ρ 40)]) := by
  have hx := C.1.1
  have hb := C.1.2.1
  have hts := C.1.2.2.2.2
  have hown := C.1.2.2.2.1
  intro σ x3 x4 x5 x6 y1 y2 y3 H locs ls h hP hS hl hK88
  unfold fM_sort_J137 at h
  obtain ⟨r_137, e_137, h⟩ := bnd_of h
  refine mCall (va_runV (As := [.int y1, .int y2, .int y3]) C.1 (cM_merge e_137) (cwV 3 hts gX7_sort_X7_merge rfl rfl rfl (by decide +kernel) ⟨by decide, by decide⟩) (mPreM C.2 hP hD _) rfl rfl hl.1 rfl (lv_room (Nat.le_of_ble_eq_true rfl)) dX7_sort_137 ⟨Nat.zero_le _, Nat.zero_le _⟩) hS hD (fun _ h => Or.inr h) (fun H locs hP hS => ?_)
  refine lv_iload hx hb dX7_sort_140 (lv_at hl 4 rfl) ?_
  refine lv_iconst (v := (2 : Int32)) hx hb dX7_sort_142 (by decide) ?_
  refine lv_iload hx hb dX7_sort_143 (lv_at hl 3 rfl) ?_
  refine lv_imul hx hb dX7_sort_145 ?_
  refine lv_iadd hx hb dX7_sort_146 ?_
  refine lv_istore (lv' := [(6, .int (x6 + ((2 : Int32) * x5))), (0, .ref (ρ 40)), (3, .int x3), (4, .int x4), (5, .int x5)]) hx hb dX7_sort_147 hl (by decide) rfl (fun ls hl => ?_)
  refine lv_goto (tgt := 88) hx hb dX7_sort_149 (by decide) ?_
  exact hK88 _ _ _ _ _ _ _ _ h hP hS (lv_sub hl [1, 2, 3, 4, 0] rfl)
set_option maxRecDepth 100000 in
set_option maxHeartbeats 4000000 in
theorem wM_sort_J115 {p : Program} {l : Launch} {e : Env} {s : State} {m : MethodId} {args : Array Value} {below : List Frame} {meth : Method} {c : Code} {D : va_G} {κ : Nat → ClassId} {ρ : Nat → Nat} (C : MC p m c cX7_sort 7 s args wsX7_sort D κ) (hr : meth.sig.returnType = none) (hlk : meth.locks = false) (hD : DM (AM ρ s.heap.size) ρ) {N : Nat} {q : MSt} {K88 : MSt → Int32 → Int32 → Int32 → Int32 → Option (MSt)} : ∀ (σ : MSt) (x3 : Int32) (x4 : Int32) (x5 : Int32) (x6 : Int32) (y1 : Int32) (y2 : Int32) (H : Heap) (locs : List Loc) (ls : Array Slot), fM_sort_J115 N K88 σ x3 x4 x5 x6 y1 y2 = some q → va_P D vwCl (cellsM κ ρ σ) H → va_S (AM ρ s.heap.size) s.heap H locs → lv_has ls 7 [(0, .ref (ρ 40)), (3, .int x3), (4, .int x4), (5, .int x5), (6, .int x6)] → (∀ (σ : MSt) (x3 : Int32) (x4 : Int32) (x5 : Int32) (x6 : Int32) (H : Heap) (locs : List Loc) (ls : Array Slot), K88 σ x3 x4 x5 x6 = some q → va_P D vwCl (cellsM κ ρ σ) H → va_S (AM ρ s.heap.size) s.heap H locs → lv_has ls 7 [(0, .ref (ρ 40)), (3, .int x3), (4, .int x4), (5, .int x5), (6, .int x6)] → W p l e ({ frames := 1, cells := 0, slots := 0, locals := 27 } : Room) s m args below meth c H locs 0 0 (MQ below (QM D κ ρ s.heap.size q none) args s 0 0 (AM ρ s.heap.size)) (F0 m 88 ls [])) → W p l e ({ frames := 1, cells := 0, slots := 0, locals := 27 } : Room) s m args below meth c H locs 0 0 (MQ below (QM D κ ρ s.heap.size q none) args s 0 0 (AM ρ s.heap.size)) (F0 m 115 ls [.int y2, .int y1, .ref (ρ 40)]) := by
  have hx := C.1.1
  have hb := C.1.2.1
  have hts := C.1.2.2.2.2
  have hown := C.1.2.2.2.1
  intro σ x3 x4 x5 x6 y1 y2 H locs ls h hP hS hl hK88
  unfold fM_sort_J115 at h
  refine lv_iload hx hb dX7_sort_115 (lv_at hl 4 rfl) ?_
  refine lv_iconst (v := (2 : Int32)) hx hb dX7_sort_117 (by decide) ?_
  refine lv_iload hx hb dX7_sort_118 (lv_at hl 3 rfl) ?_
  refine lv_imul hx hb dX7_sort_120 ?_
  refine lv_iadd hx hb dX7_sort_121 ?_
  refine lv_iload_n hx hb dX7_sort_122 rfl (lv_at hl 1 rfl) ?_
  refine lv_icmp_ge (tgt := 136) hx hb dX7_sort_123 (by decide) (fun c_123 => ?_) (fun c_123 => ?_)
  · have h := zz_pos c_123 h
    refine lv_iload_n hx hb dX7_sort_136 rfl (lv_at hl 1 rfl) ?_
    refine wM_sort_J137 C hr hlk hD _ _ _ _ _ _ _ _ _ _ _ h hP hS (lv_sub hl [0, 1, 2, 3, 4] rfl) ?_
    intro σ x3 x4 x5 x6 H locs ls h hP hS hl
    exact hK88 _ _ _ _ _ _ _ _ h hP hS (lv_sub hl [0, 1, 2, 3, 4] rfl)
  · have h := zz_neg c_123 h
    refine lv_iload hx hb dX7_sort_126 (lv_at hl 4 rfl) ?_
    refine lv_iconst (v := (2 : Int32)) hx hb dX7_sort_128 (by decide) ?_
    refine lv_iload hx hb dX7_sort_129 (lv_at hl 3 rfl) ?_
    refine lv_imul hx hb dX7_sort_131 ?_
    refine lv_iadd hx hb dX7_sort_132 ?_
    refine lv_goto (tgt := 137) hx hb dX7_sort_133 (by decide) ?_
    refine wM_sort_J137 C hr hlk hD _ _ _ _ _ _ _ _ _ _ _ h hP hS (lv_sub hl [0, 1, 2, 3, 4] rfl) ?_
    intro σ x3 x4 x5 x6 H locs ls h hP hS hl
    exact hK88 _ _ _ _ _ _ _ _ h hP hS (lv_sub hl [0, 1, 2, 3, 4] rfl)
set_option maxRecDepth 100000 in
set_option maxHeartbeats 4000000 in
theorem wM_sort_L88 {p : Program} {l : Launch} {e : Env} {s : State} {m : MethodId} {args : Array Value} {below : List Frame} {meth : Method} {c : Code} {D : va_G} {κ : Nat → ClassId} {ρ : Nat → Nat} (C : MC p m c cX7_sort 7 s args wsX7_sort D κ) (hr : meth.sig.returnType = none) (hlk : meth.locks = false) (hD : DM (AM ρ s.heap.size) ρ) {N : Nat} {q : MSt} {K152 : MSt → Int32 → Int32 → Int32 → Option (MSt)} : ∀ (n : Nat) (σ : MSt) (x3 : Int32) (x4 : Int32) (x5 : Int32) (x6 : Int32) (H : Heap) (locs : List Loc) (ls : Array Slot), fM_sort_L88 N K152 n σ x3 x4 x5 x6 = some q → va_P D vwCl (cellsM κ ρ σ) H → va_S (AM ρ s.heap.size) s.heap H locs → lv_has ls 7 [(0, .ref (ρ 40)), (3, .int x3), (4, .int x4), (5, .int x5), (6, .int x6)] → (∀ (σ : MSt) (x3 : Int32) (x4 : Int32) (x5 : Int32) (H : Heap) (locs : List Loc) (ls : Array Slot), K152 σ x3 x4 x5 = some q → va_P D vwCl (cellsM κ ρ σ) H → va_S (AM ρ s.heap.size) s.heap H locs → lv_has ls 7 [(0, .ref (ρ 40)), (3, .int x3), (4, .int x4), (5, .int x5)] → W p l e ({ frames := 1, cells := 0, slots := 0, locals := 27 } : Room) s m args below meth c H locs 0 0 (MQ below (QM D κ ρ s.heap.size q none) args s 0 0 (AM ρ s.heap.size)) (F0 m 152 ls [])) → W p l e ({ frames := 1, cells := 0, slots := 0, locals := 27 } : Room) s m args below meth c H locs 0 0 (MQ below (QM D κ ρ s.heap.size q none) args s 0 0 (AM ρ s.heap.size)) (F0 m 88 ls []) := by
  have hx := C.1.1
  have hb := C.1.2.1
  have hts := C.1.2.2.2.2
  have hown := C.1.2.2.2.1
  intro n
  induction n with
  | zero =>
    intro σ x3 x4 x5 x6 H locs ls h hP hS hl hK152
    rw [fM_sort_L88] at h
    cases h
  | succ n ih =>
    intro σ x3 x4 x5 x6 H locs ls h hP hS hl hK152
    rw [fM_sort_L88] at h
    refine lv_iload hx hb dX7_sort_88 (lv_at hl 4 rfl) ?_
    refine lv_iload_n hx hb dX7_sort_90 rfl (lv_at hl 1 rfl) ?_
    refine lv_icmp_ge (tgt := 152) hx hb dX7_sort_91 (by decide) (fun c_91 => ?_) (fun c_91 => ?_)
    · have h := zz_pos c_91 h
      exact hK152 _ _ _ _ _ _ _ h hP hS (lv_sub hl [0, 1, 2, 3] rfl)
    · have h := zz_neg c_91 h
      refine lv_aload_n hx hb dX7_sort_94 rfl (lv_at hl 0 rfl) ?_
      refine lv_iload hx hb dX7_sort_95 (lv_at hl 4 rfl) ?_
      refine lv_iload hx hb dX7_sort_97 (lv_at hl 4 rfl) ?_
      refine lv_iload hx hb dX7_sort_99 (lv_at hl 3 rfl) ?_
      refine lv_iadd hx hb dX7_sort_101 ?_
      refine lv_iload_n hx hb dX7_sort_102 rfl (lv_at hl 1 rfl) ?_
      refine lv_icmp_ge (tgt := 114) hx hb dX7_sort_103 (by decide) (fun c_103 => ?_) (fun c_103 => ?_)
      · have h := zz_pos c_103 h
        refine lv_iload_n hx hb dX7_sort_114 rfl (lv_at hl 1 rfl) ?_
        refine wM_sort_J115 C hr hlk hD _ _ _ _ _ _ _ _ _ _ h hP hS (lv_sub hl [0, 1, 2, 3, 4] rfl) ?_
        intro σ x3 x4 x5 x6 H locs ls h hP hS hl
        exact ih _ _ _ _ _ _ _ _ h hP hS (lv_sub hl [0, 1, 2, 3, 4] rfl) hK152
      · have h := zz_neg c_103 h
        refine lv_iload hx hb dX7_sort_106 (lv_at hl 4 rfl) ?_
        refine lv_iload hx hb dX7_sort_108 (lv_at hl 3 rfl) ?_
        refine lv_iadd hx hb dX7_sort_110 ?_
        refine lv_goto (tgt := 115) hx hb dX7_sort_111 (by decide) ?_
        refine wM_sort_J115 C hr hlk hD _ _ _ _ _ _ _ _ _ _ h hP hS (lv_sub hl [0, 1, 2, 3, 4] rfl) ?_
        intro σ x3 x4 x5 x6 H locs ls h hP hS hl
        exact ih _ _ _ _ _ _ _ _ h hP hS (lv_sub hl [0, 1, 2, 3, 4] rfl) hK152
set_option maxRecDepth 100000 in
set_option maxHeartbeats 4000000 in
theorem wM_sort_L155 {p : Program} {l : Launch} {e : Env} {s : State} {m : MethodId} {args : Array Value} {below : List Frame} {meth : Method} {c : Code} {D : va_G} {κ : Nat → ClassId} {ρ : Nat → Nat} (C : MC p m c cX7_sort 7 s args wsX7_sort D κ) (hr : meth.sig.returnType = none) (hlk : meth.locks = false) (hD : DM (AM ρ s.heap.size) ρ) {N : Nat} {q : MSt} {K181 : MSt → Int32 → Int32 → Int32 → Option (MSt)} : ∀ (n : Nat) (σ : MSt) (x3 : Int32) (x4 : Int32) (x5 : Int32) (x6 : Int32) (H : Heap) (locs : List Loc) (ls : Array Slot), fM_sort_L155 N K181 n σ x3 x4 x5 x6 = some q → va_P D vwCl (cellsM κ ρ σ) H → va_S (AM ρ s.heap.size) s.heap H locs → lv_has ls 7 [(0, .ref (ρ 40)), (3, .int x3), (4, .int x4), (5, .int x5), (6, .int x6)] → (∀ (σ : MSt) (x3 : Int32) (x4 : Int32) (x5 : Int32) (H : Heap) (locs : List Loc) (ls : Array Slot), K181 σ x3 x4 x5 = some q → va_P D vwCl (cellsM κ ρ σ) H → va_S (AM ρ s.heap.size) s.heap H locs → lv_has ls 7 [(0, .ref (ρ 40)), (3, .int x3), (4, .int x4), (5, .int x5)] → W p l e ({ frames := 1, cells := 0, slots := 0, locals := 27 } : Room) s m args below meth c H locs 0 0 (MQ below (QM D κ ρ s.heap.size q none) args s 0 0 (AM ρ s.heap.size)) (F0 m 181 ls [])) → W p l e ({ frames := 1, cells := 0, slots := 0, locals := 27 } : Room) s m args below meth c H locs 0 0 (MQ below (QM D κ ρ s.heap.size q none) args s 0 0 (AM ρ s.heap.size)) (F0 m 155 ls []) := by
  have hx := C.1.1
  have hb := C.1.2.1
  have hts := C.1.2.2.2.2
  have hown := C.1.2.2.2.1
  have k_114 := hts (.fieldLink RX7 114 "PlanCabinetModel" "sortAt" "[I") (by decide +kernel)
  have k_117 := hts (.fieldLink RX7 117 "PlanCabinetModel" "merged" "[I") (by decide +kernel)
  have in_7 : ∀ w ∈ wsX70, w ∈ wsX7_sort := by decide +kernel
  intro n
  induction n with
  | zero =>
    intro σ x3 x4 x5 x6 H locs ls h hP hS hl hK181
    rw [fM_sort_L155] at h
    cases h
  | succ n ih =>
    intro σ x3 x4 x5 x6 H locs ls h hP hS hl hK181
    rw [fM_sort_L155] at h
    refine lv_iload hx hb dX7_sort_155 (lv_at hl 4 rfl) ?_
    refine lv_iload_n hx hb dX7_sort_157 rfl (lv_at hl 1 rfl) ?_
    refine lv_icmp_ge (tgt := 181) hx hb dX7_sort_158 (by decide) (fun c_158 => ?_) (fun c_158 => ?_)
    · have h := zz_pos c_158 h
      exact hK181 _ _ _ _ _ _ _ h hP hS (lv_sub hl [0, 1, 2, 3] rfl)
    · have h := zz_neg c_158 h
      refine lv_aload_n hx hb dX7_sort_161 rfl (lv_at hl 0 rfl) ?_
      refine mG_33 C in_7 hP k_114 dX7_sort_162 ?_
      refine lv_iload hx hb dX7_sort_165 (lv_at hl 4 rfl) ?_
      refine lv_aload_n hx hb dX7_sort_167 rfl (lv_at hl 0 rfl) ?_
      refine mG_34 C in_7 hP k_117 dX7_sort_168 ?_
      refine lv_iload hx hb dX7_sort_171 (lv_at hl 4 rfl) ?_
      obtain ⟨b_173, h⟩ := chk_of h
      refine mL_34 C hP b_173 dX7_sort_173 ?_
      obtain ⟨b_174, h⟩ := chk_of h
      refine mS_33 C hP hD hS b_174 dX7_sort_174 (fun H locs hP hS => ?_)
      refine lv_iinc (v := (x6 + 1)) (lv' := [(6, .int (x6 + 1)), (0, .ref (ρ 40)), (3, .int x3), (4, .int x4), (5, .int x5)]) hx hb dX7_sort_175 hl (k := 4) rfl rfl (by decide) rfl (fun ls hl => ?_)
      refine lv_goto (tgt := 155) hx hb dX7_sort_178 (by decide) ?_
      exact ih _ _ _ _ _ _ _ _ h hP hS (lv_sub hl [1, 2, 3, 4, 0] rfl) hK181
set_option maxRecDepth 100000 in
set_option maxHeartbeats 4000000 in
theorem wM_sort_L79 {p : Program} {l : Launch} {e : Env} {s : State} {m : MethodId} {args : Array Value} {below : List Frame} {meth : Method} {c : Code} {D : va_G} {κ : Nat → ClassId} {ρ : Nat → Nat} (C : MC p m c cX7_sort 7 s args wsX7_sort D κ) (hr : meth.sig.returnType = none) (hlk : meth.locks = false) (hD : DM (AM ρ s.heap.size) ρ) {N : Nat} {q : MSt} {K190 : MSt → Int32 → Int32 → Option (MSt)} : ∀ (n : Nat) (σ : MSt) (x3 : Int32) (x4 : Int32) (x5 : Int32) (H : Heap) (locs : List Loc) (ls : Array Slot), fM_sort_L79 N K190 n σ x3 x4 x5 = some q → va_P D vwCl (cellsM κ ρ σ) H → va_S (AM ρ s.heap.size) s.heap H locs → lv_has ls 7 [(0, .ref (ρ 40)), (3, .int x3), (4, .int x4), (5, .int x5)] → (∀ (σ : MSt) (x3 : Int32) (x4 : Int32) (H : Heap) (locs : List Loc) (ls : Array Slot), K190 σ x3 x4 = some q → va_P D vwCl (cellsM κ ρ σ) H → va_S (AM ρ s.heap.size) s.heap H locs → lv_has ls 7 [(0, .ref (ρ 40)), (3, .int x3), (4, .int x4)] → W p l e ({ frames := 1, cells := 0, slots := 0, locals := 27 } : Room) s m args below meth c H locs 0 0 (MQ below (QM D κ ρ s.heap.size q none) args s 0 0 (AM ρ s.heap.size)) (F0 m 190 ls [])) → W p l e ({ frames := 1, cells := 0, slots := 0, locals := 27 } : Room) s m args below meth c H locs 0 0 (MQ below (QM D κ ρ s.heap.size q none) args s 0 0 (AM ρ s.heap.size)) (F0 m 79 ls []) := by
  have hx := C.1.1
  have hb := C.1.2.1
  have hts := C.1.2.2.2.2
  have hown := C.1.2.2.2.1
  intro n
  induction n with
  | zero =>
    intro σ x3 x4 x5 H locs ls h hP hS hl hK190
    rw [fM_sort_L79] at h
    cases h
  | succ n ih =>
    intro σ x3 x4 x5 H locs ls h hP hS hl hK190
    rw [fM_sort_L79] at h
    refine lv_iload hx hb dX7_sort_79 (lv_at hl 3 rfl) ?_
    refine lv_iload_n hx hb dX7_sort_81 rfl (lv_at hl 1 rfl) ?_
    refine lv_icmp_ge (tgt := 190) hx hb dX7_sort_82 (by decide) (fun c_82 => ?_) (fun c_82 => ?_)
    · have h := zz_pos c_82 h
      exact hK190 _ _ _ _ _ _ h hP hS (lv_sub hl [0, 1, 2] rfl)
    · have h := zz_neg c_82 h
      refine lv_iconst (v := (0 : Int32)) hx hb dX7_sort_85 (by decide) ?_
      refine lv_istore (lv' := [(6, .int (0 : Int32)), (0, .ref (ρ 40)), (3, .int x3), (4, .int x4), (5, .int x5)]) hx hb dX7_sort_86 hl (by decide) rfl (fun ls hl => ?_)
      refine wM_sort_L88 C hr hlk hD _ _ _ _ _ _ _ _ _ h hP hS (lv_sub hl [1, 2, 3, 4, 0] rfl) ?_
      intro σ x3 x4 x5 H locs ls h hP hS hl
      refine lv_iconst (v := (0 : Int32)) hx hb dX7_sort_152 (by decide) ?_
      refine lv_istore (lv' := [(6, .int (0 : Int32)), (0, .ref (ρ 40)), (3, .int x3), (4, .int x4), (5, .int x5)]) hx hb dX7_sort_153 hl (by decide) rfl (fun ls hl => ?_)
      refine wM_sort_L155 C hr hlk hD _ _ _ _ _ _ _ _ _ h hP hS (lv_sub hl [1, 2, 3, 4, 0] rfl) ?_
      intro σ x3 x4 x5 H locs ls h hP hS hl
      refine lv_iload hx hb dX7_sort_181 (lv_at hl 3 rfl) ?_
      refine lv_iconst (v := (2 : Int32)) hx hb dX7_sort_183 (by decide) ?_
      refine lv_imul hx hb dX7_sort_184 ?_
      refine lv_istore (lv' := [(5, .int (x5 * (2 : Int32))), (0, .ref (ρ 40)), (3, .int x3), (4, .int x4)]) hx hb dX7_sort_185 hl (by decide) rfl (fun ls hl => ?_)
      refine lv_goto (tgt := 79) hx hb dX7_sort_187 (by decide) ?_
      exact ih _ _ _ _ _ _ _ h hP hS (lv_sub hl [1, 2, 3, 0] rfl) hK190
set_option maxRecDepth 100000 in
set_option maxHeartbeats 4000000 in
theorem wM_sort_L202 {p : Program} {l : Launch} {e : Env} {s : State} {m : MethodId} {args : Array Value} {below : List Frame} {meth : Method} {c : Code} {D : va_G} {κ : Nat → ClassId} {ρ : Nat → Nat} (C : MC p m c cX7_sort 7 s args wsX7_sort D κ) (hr : meth.sig.returnType = none) (hlk : meth.locks = false) (hD : DM (AM ρ s.heap.size) ρ) {N : Nat} {q : MSt} {K246 : MSt → Int32 → Int32 → Int32 → Option (MSt)} : ∀ (n : Nat) (σ : MSt) (x3 : Int32) (x4 : Int32) (x5 : Int32) (x6 : Int32) (H : Heap) (locs : List Loc) (ls : Array Slot), fM_sort_L202 N K246 n σ x3 x4 x5 x6 = some q → va_P D vwCl (cellsM κ ρ σ) H → va_S (AM ρ s.heap.size) s.heap H locs → lv_has ls 7 [(0, .ref (ρ 40)), (3, .int x3), (4, .int x4), (5, .int x5), (6, .int x6)] → (∀ (σ : MSt) (x3 : Int32) (x4 : Int32) (x5 : Int32) (H : Heap) (locs : List Loc) (ls : Array Slot), K246 σ x3 x4 x5 = some q → va_P D vwCl (cellsM κ ρ σ) H → va_S (AM ρ s.heap.size) s.heap H locs → lv_has ls 7 [(0, .ref (ρ 40)), (3, .int x3), (4, .int x4), (5, .int x5)] → W p l e ({ frames := 1, cells := 0, slots := 0, locals := 27 } : Room) s m args below meth c H locs 0 0 (MQ below (QM D κ ρ s.heap.size q none) args s 0 0 (AM ρ s.heap.size)) (F0 m 246 ls [])) → W p l e ({ frames := 1, cells := 0, slots := 0, locals := 27 } : Room) s m args below meth c H locs 0 0 (MQ below (QM D κ ρ s.heap.size q none) args s 0 0 (AM ρ s.heap.size)) (F0 m 202 ls []) := by
  have hx := C.1.1
  have hb := C.1.2.1
  have hts := C.1.2.2.2.2
  have hown := C.1.2.2.2.1
  have k_102 := hts (.fieldLink RX7 102 "PlanCabinetModel" "lists" "[I") (by decide +kernel)
  have k_114 := hts (.fieldLink RX7 114 "PlanCabinetModel" "sortAt" "[I") (by decide +kernel)
  have k_121 := hts (.fieldLink RX7 121 "PlanCabinetModel" "moved" "[I") (by decide +kernel)
  have in_7 : ∀ w ∈ wsX70, w ∈ wsX7_sort := by decide +kernel
  intro n
  induction n with
  | zero =>
    intro σ x3 x4 x5 x6 H locs ls h hP hS hl hK246
    rw [fM_sort_L202] at h
    cases h
  | succ n ih =>
    intro σ x3 x4 x5 x6 H locs ls h hP hS hl hK246
    rw [fM_sort_L202] at h
    refine lv_iload hx hb dX7_sort_202 (lv_at hl 4 rfl) ?_
    refine lv_iconst (v := (4 : Int32)) hx hb dX7_sort_204 (by decide) ?_
    refine lv_icmp_ge (tgt := 246) hx hb dX7_sort_205 (by decide) (fun c_205 => ?_) (fun c_205 => ?_)
    · have h := zz_pos c_205 h
      exact hK246 _ _ _ _ _ _ _ h hP hS (lv_sub hl [0, 1, 2, 3] rfl)
    · have h := zz_neg c_205 h
      refine lv_aload_n hx hb dX7_sort_208 rfl (lv_at hl 0 rfl) ?_
      refine mG_35 C in_7 hP k_121 dX7_sort_209 ?_
      refine lv_iconst (v := (4 : Int32)) hx hb dX7_sort_212 (by decide) ?_
      refine lv_iload hx hb dX7_sort_213 (lv_at hl 3 rfl) ?_
      refine lv_imul hx hb dX7_sort_215 ?_
      refine lv_iload hx hb dX7_sort_216 (lv_at hl 4 rfl) ?_
      refine lv_iadd hx hb dX7_sort_218 ?_
      refine lv_aload_n hx hb dX7_sort_219 rfl (lv_at hl 0 rfl) ?_
      refine mG_29 C in_7 hP k_102 dX7_sort_220 ?_
      refine lv_iload hx hb dX7_sort_223 (lv_at hl 2 rfl) ?_
      refine lv_iconst (v := (4 : Int32)) hx hb dX7_sort_225 (by decide) ?_
      refine lv_aload_n hx hb dX7_sort_226 rfl (lv_at hl 0 rfl) ?_
      refine mG_33 C in_7 hP k_114 dX7_sort_227 ?_
      refine lv_iload hx hb dX7_sort_230 (lv_at hl 3 rfl) ?_
      obtain ⟨b_232, h⟩ := chk_of h
      refine mL_33 C hP b_232 dX7_sort_232 ?_
      refine lv_imul hx hb dX7_sort_233 ?_
      refine lv_iadd hx hb dX7_sort_234 ?_
      refine lv_iload hx hb dX7_sort_235 (lv_at hl 4 rfl) ?_
      refine lv_iadd hx hb dX7_sort_237 ?_
      obtain ⟨b_238, h⟩ := chk_of h
      refine mL_29 C hP b_238 dX7_sort_238 ?_
      obtain ⟨b_239, h⟩ := chk_of h
      refine mS_35 C hP hD hS b_239 dX7_sort_239 (fun H locs hP hS => ?_)
      refine lv_iinc (v := (x6 + 1)) (lv' := [(6, .int (x6 + 1)), (0, .ref (ρ 40)), (3, .int x3), (4, .int x4), (5, .int x5)]) hx hb dX7_sort_240 hl (k := 4) rfl rfl (by decide) rfl (fun ls hl => ?_)
      refine lv_goto (tgt := 202) hx hb dX7_sort_243 (by decide) ?_
      exact ih _ _ _ _ _ _ _ _ h hP hS (lv_sub hl [1, 2, 3, 4, 0] rfl) hK246
set_option maxRecDepth 100000 in
set_option maxHeartbeats 4000000 in
theorem wM_sort_L193 {p : Program} {l : Launch} {e : Env} {s : State} {m : MethodId} {args : Array Value} {below : List Frame} {meth : Method} {c : Code} {D : va_G} {κ : Nat → ClassId} {ρ : Nat → Nat} (C : MC p m c cX7_sort 7 s args wsX7_sort D κ) (hr : meth.sig.returnType = none) (hlk : meth.locks = false) (hD : DM (AM ρ s.heap.size) ρ) {N : Nat} {q : MSt} {K252 : MSt → Int32 → Int32 → Option (MSt)} : ∀ (n : Nat) (σ : MSt) (x3 : Int32) (x4 : Int32) (x5 : Int32) (H : Heap) (locs : List Loc) (ls : Array Slot), fM_sort_L193 N K252 n σ x3 x4 x5 = some q → va_P D vwCl (cellsM κ ρ σ) H → va_S (AM ρ s.heap.size) s.heap H locs → lv_has ls 7 [(0, .ref (ρ 40)), (3, .int x3), (4, .int x4), (5, .int x5)] → (∀ (σ : MSt) (x3 : Int32) (x4 : Int32) (H : Heap) (locs : List Loc) (ls : Array Slot), K252 σ x3 x4 = some q → va_P D vwCl (cellsM κ ρ σ) H → va_S (AM ρ s.heap.size) s.heap H locs → lv_has ls 7 [(0, .ref (ρ 40)), (3, .int x3), (4, .int x4)] → W p l e ({ frames := 1, cells := 0, slots := 0, locals := 27 } : Room) s m args below meth c H locs 0 0 (MQ below (QM D κ ρ s.heap.size q none) args s 0 0 (AM ρ s.heap.size)) (F0 m 252 ls [])) → W p l e ({ frames := 1, cells := 0, slots := 0, locals := 27 } : Room) s m args below meth c H locs 0 0 (MQ below (QM D κ ρ s.heap.size q none) args s 0 0 (AM ρ s.heap.size)) (F0 m 193 ls []) := by
  have hx := C.1.1
  have hb := C.1.2.1
  have hts := C.1.2.2.2.2
  have hown := C.1.2.2.2.1
  intro n
  induction n with
  | zero =>
    intro σ x3 x4 x5 H locs ls h hP hS hl hK252
    rw [fM_sort_L193] at h
    cases h
  | succ n ih =>
    intro σ x3 x4 x5 H locs ls h hP hS hl hK252
    rw [fM_sort_L193] at h
    refine lv_iload hx hb dX7_sort_193 (lv_at hl 3 rfl) ?_
    refine lv_iload_n hx hb dX7_sort_195 rfl (lv_at hl 1 rfl) ?_
    refine lv_icmp_ge (tgt := 252) hx hb dX7_sort_196 (by decide) (fun c_196 => ?_) (fun c_196 => ?_)
    · have h := zz_pos c_196 h
      exact hK252 _ _ _ _ _ _ h hP hS (lv_sub hl [0, 1, 2] rfl)
    · have h := zz_neg c_196 h
      refine lv_iconst (v := (0 : Int32)) hx hb dX7_sort_199 (by decide) ?_
      refine lv_istore (lv' := [(6, .int (0 : Int32)), (0, .ref (ρ 40)), (3, .int x3), (4, .int x4), (5, .int x5)]) hx hb dX7_sort_200 hl (by decide) rfl (fun ls hl => ?_)
      refine wM_sort_L202 C hr hlk hD _ _ _ _ _ _ _ _ _ h hP hS (lv_sub hl [1, 2, 3, 4, 0] rfl) ?_
      intro σ x3 x4 x5 H locs ls h hP hS hl
      refine lv_iinc (v := (x5 + 1)) (lv' := [(5, .int (x5 + 1)), (0, .ref (ρ 40)), (3, .int x3), (4, .int x4)]) hx hb dX7_sort_246 hl (k := 3) rfl rfl (by decide) rfl (fun ls hl => ?_)
      refine lv_goto (tgt := 193) hx hb dX7_sort_249 (by decide) ?_
      exact ih _ _ _ _ _ _ _ h hP hS (lv_sub hl [1, 2, 3, 0] rfl) hK252
set_option maxRecDepth 100000 in
set_option maxHeartbeats 4000000 in
theorem wM_sort_L255 {p : Program} {l : Launch} {e : Env} {s : State} {m : MethodId} {args : Array Value} {below : List Frame} {meth : Method} {c : Code} {D : va_G} {κ : Nat → ClassId} {ρ : Nat → Nat} (C : MC p m c cX7_sort 7 s args wsX7_sort D κ) (hr : meth.sig.returnType = none) (hlk : meth.locks = false) (hD : DM (AM ρ s.heap.size) ρ) {N : Nat} {q : MSt} : ∀ (n : Nat) (σ : MSt) (x3 : Int32) (x4 : Int32) (x5 : Int32) (H : Heap) (locs : List Loc) (ls : Array Slot), fM_sort_L255 N n σ x3 x4 x5 = some q → va_P D vwCl (cellsM κ ρ σ) H → va_S (AM ρ s.heap.size) s.heap H locs → lv_has ls 7 [(0, .ref (ρ 40)), (3, .int x3), (4, .int x4), (5, .int x5)] → W p l e ({ frames := 1, cells := 0, slots := 0, locals := 27 } : Room) s m args below meth c H locs 0 0 (MQ below (QM D κ ρ s.heap.size q none) args s 0 0 (AM ρ s.heap.size)) (F0 m 255 ls []) := by
  have hx := C.1.1
  have hb := C.1.2.1
  have hts := C.1.2.2.2.2
  have hown := C.1.2.2.2.1
  have k_102 := hts (.fieldLink RX7 102 "PlanCabinetModel" "lists" "[I") (by decide +kernel)
  have k_121 := hts (.fieldLink RX7 121 "PlanCabinetModel" "moved" "[I") (by decide +kernel)
  have in_7 : ∀ w ∈ wsX70, w ∈ wsX7_sort := by decide +kernel
  intro n
  induction n with
  | zero =>
    intro σ x3 x4 x5 H locs ls h hP hS hl
    rw [fM_sort_L255] at h
    cases h
  | succ n ih =>
    intro σ x3 x4 x5 H locs ls h hP hS hl
    rw [fM_sort_L255] at h
    refine lv_iload hx hb dX7_sort_255 (lv_at hl 3 rfl) ?_
    refine lv_iconst (v := (4 : Int32)) hx hb dX7_sort_257 (by decide) ?_
    refine lv_iload_n hx hb dX7_sort_258 rfl (lv_at hl 1 rfl) ?_
    refine lv_imul hx hb dX7_sort_259 ?_
    refine lv_icmp_ge (tgt := 286) hx hb dX7_sort_260 (by decide) (fun c_260 => ?_) (fun c_260 => ?_)
    · have h := zz_pos c_260 h
      exact W.vret hx hb hr (fun t ht hW => ⟨rfl, by rw [ht, ← some_of h]; exact hP, hS.F ht⟩) hS.2.2 dX7_sort_286
    · have h := zz_neg c_260 h
      refine lv_aload_n hx hb dX7_sort_263 rfl (lv_at hl 0 rfl) ?_
      refine mG_29 C in_7 hP k_102 dX7_sort_264 ?_
      refine lv_iload hx hb dX7_sort_267 (lv_at hl 2 rfl) ?_
      refine lv_iload hx hb dX7_sort_269 (lv_at hl 3 rfl) ?_
      refine lv_iadd hx hb dX7_sort_271 ?_
      refine lv_aload_n hx hb dX7_sort_272 rfl (lv_at hl 0 rfl) ?_
      refine mG_35 C in_7 hP k_121 dX7_sort_273 ?_
      refine lv_iload hx hb dX7_sort_276 (lv_at hl 3 rfl) ?_
      obtain ⟨b_278, h⟩ := chk_of h
      refine mL_35 C hP b_278 dX7_sort_278 ?_
      obtain ⟨b_279, h⟩ := chk_of h
      refine mS_29 C hP hD hS b_279 dX7_sort_279 (fun H locs hP hS => ?_)
      refine lv_iinc (v := (x5 + 1)) (lv' := [(5, .int (x5 + 1)), (0, .ref (ρ 40)), (3, .int x3), (4, .int x4)]) hx hb dX7_sort_280 hl (k := 3) rfl rfl (by decide) rfl (fun ls hl => ?_)
      refine lv_goto (tgt := 255) hx hb dX7_sort_283 (by decide) ?_
      exact ih _ _ _ _ _ _ _ h hP hS (lv_sub hl [1, 2, 3, 0] rfl)
set_option maxRecDepth 100000 in
set_option maxHeartbeats 4000000 in
theorem cM_sort {l : Launch} {D : va_G} {κ : Nat → ClassId} {ρ : Nat → Nat} {sz : Nat} {N : Nat} {σ : MSt} {x1 : Int32} {x2 : Int32} {q : MSt} (h : fM_sort N σ x1 x2 = some q) : Met l yX7_sort wsX7_sort ({ frames := 1, cells := 0, slots := 0, locals := 27 } : Room) (va_Pc [.ref (ρ 40), .int x1, .int x2] (PM D κ ρ sz σ)) (QM D κ ρ sz q none) 0 0 (AM ρ sz) := by
  refine mMetM (ret := none) (by decide) rfl rfl (Nat.le_of_ble_eq_true rfl) ?_
  intro p e s m below meth c ls C hr hlk hD hP hl
  have hS : va_S (AM ρ s.heap.size) s.heap s.heap [] := va_S.rf
  have hl : lv_has ls 7 [(0, .ref (ρ 40)), (1, .int x1), (2, .int x2)] := hl
  unfold fM_sort at h
  have hx := C.1.1
  have hb := C.1.2.1
  have hts := C.1.2.2.2.2
  have hown := C.1.2.2.2.1
  have k_105 := hts (.fieldLink RX7 105 "PlanCabinetModel" "many" "[I") (by decide +kernel)
  have k_124 := hts (.fieldLink RX7 124 "PlanCabinetModel" "pile" "I") (by decide +kernel)
  have in_7 : ∀ w ∈ wsX70, w ∈ wsX7_sort := by decide +kernel
  refine lv_aload_n hx hb dX7_sort_0 rfl (lv_at hl 0 rfl) ?_
  refine mG_30 C in_7 hP k_105 dX7_sort_1 ?_
  refine lv_aload_n hx hb dX7_sort_4 rfl (lv_at hl 0 rfl) ?_
  refine mG_36 C in_7 hP k_124 dX7_sort_5 ?_
  refine lv_iconst (v := (1 : Int32)) hx hb dX7_sort_8 (by decide) ?_
  refine lv_isub hx hb dX7_sort_9 ?_
  obtain ⟨b_10, h⟩ := chk_of h
  refine mL_30 C hP b_10 dX7_sort_10 ?_
  refine lv_istore_n (lv' := [(3, .int (σ.2.2.1 30 ((σ.1 36) - (1 : Int32)).toNatClampNeg)), (0, .ref (ρ 40)), (1, .int x1), (2, .int x2)]) hx hb dX7_sort_11 rfl hl (by decide) rfl (fun ls hl => ?_)
  refine lv_aload_n hx hb dX7_sort_12 rfl (lv_at hl 1 rfl) ?_
  refine lv_aload_n hx hb dX7_sort_13 rfl (lv_at hl 1 rfl) ?_
  refine mG_36 C in_7 hP k_124 dX7_sort_14 ?_
  refine lv_iconst (v := (1 : Int32)) hx hb dX7_sort_17 (by decide) ?_
  refine lv_isub hx hb dX7_sort_18 ?_
  refine lv_iconst (v := (0 : Int32)) hx hb dX7_sort_19 (by decide) ?_
  obtain ⟨r_20, e_20, h⟩ := bnd_of h
  refine callP (W.runV (As := [.int ((σ.1 36) - (1 : Int32)), .int (0 : Int32)]) C.1 (cM_spot e_20) (cwV 2 hts gX7_sort_X7_spot rfl rfl rfl (by decide +kernel) ⟨by decide, by decide⟩) (mPreR C.2 hP _) rfl rfl hl.1 rfl (lv_room (Nat.le_of_ble_eq_true rfl)) dX7_sort_20 ⟨Nat.zero_le _, Nat.zero_le _⟩) ?_
  refine lv_istore (lv' := [(4, .int r_20), (3, .int (σ.2.2.1 30 ((σ.1 36) - (1 : Int32)).toNatClampNeg)), (0, .ref (ρ 40)), (1, .int x1), (2, .int x2)]) hx hb dX7_sort_23 hl (by decide) rfl (fun ls hl => ?_)
  refine lv_iconst (v := (0 : Int32)) hx hb dX7_sort_25 (by decide) ?_
  refine lv_istore (lv' := [(5, .int (0 : Int32)), (4, .int r_20), (3, .int (σ.2.2.1 30 ((σ.1 36) - (1 : Int32)).toNatClampNeg)), (0, .ref (ρ 40)), (1, .int x1), (2, .int x2)]) hx hb dX7_sort_26 hl (by decide) rfl (fun ls hl => ?_)
  refine wM_sort_L28 C hr hlk hD _ _ _ _ _ _ _ _ _ _ h hP hS (lv_sub hl [3, 4, 5, 2, 1, 0] rfl) ?_
  intro σ x3 x4 H locs ls h hP hS hl
  refine lv_iconst (v := (1 : Int32)) hx hb dX7_sort_76 (by decide) ?_
  refine lv_istore (lv' := [(5, .int (1 : Int32)), (0, .ref (ρ 40)), (3, .int x3), (4, .int x4)]) hx hb dX7_sort_77 hl (by decide) rfl (fun ls hl => ?_)
  refine wM_sort_L79 C hr hlk hD _ _ _ _ _ _ _ _ h hP hS (lv_sub hl [1, 2, 3, 0] rfl) ?_
  intro σ x3 x4 H locs ls h hP hS hl
  refine lv_iconst (v := (0 : Int32)) hx hb dX7_sort_190 (by decide) ?_
  refine lv_istore (lv' := [(5, .int (0 : Int32)), (0, .ref (ρ 40)), (3, .int x3), (4, .int x4)]) hx hb dX7_sort_191 hl (by decide) rfl (fun ls hl => ?_)
  refine wM_sort_L193 C hr hlk hD _ _ _ _ _ _ _ _ h hP hS (lv_sub hl [1, 2, 3, 0] rfl) ?_
  intro σ x3 x4 H locs ls h hP hS hl
  refine lv_iconst (v := (0 : Int32)) hx hb dX7_sort_252 (by decide) ?_
  refine lv_istore (lv' := [(5, .int (0 : Int32)), (0, .ref (ρ 40)), (3, .int x3), (4, .int x4)]) hx hb dX7_sort_253 hl (by decide) rfl (fun ls hl => ?_)
  exact wM_sort_L255 C hr hlk hD _ _ _ _ _ _ _ _ h hP hS (lv_sub hl [1, 2, 3, 0] rfl)
def fM_joinTop_L92 (N : Nat) (K152 : MSt → Int32 → Int32 → Int32 → Int32 → Int32 → Int32 → Option (MSt)) : Nat → MSt → Int32 → Int32 → Int32 → Int32 → Int32 → Int32 → Int32 → Int32 → Int32 → Option (MSt)
  | 0, _, _, _, _, _, _, _, _, _, _ => none
  | n + 1, σ, x1, x2, x3, x4, x5, x6, x7, x8, x9 => (if (4 : Int32) ≤ x9 then K152 σ x1 x2 x3 x4 x5 x6 else chk (x7 + x9) 414720 ((if (σ.2.2.1 29 (x7 + x9).toNatClampNeg) < 0 then chk (x8 + x9) 414720 (chk (((4 : Int32) * x4) + x9) 82944 (fM_joinTop_L92 N K152 n (sA σ 35 (((4 : Int32) * x4) + x9).toNatClampNeg (σ.2.2.1 29 (x8 + x9).toNatClampNeg)) x1 x2 x3 x4 x5 x6 x7 x8 (x9 + 1))) else chk (x7 + x9) 414720 (chk (((4 : Int32) * x4) + x9) 82944 (fM_joinTop_L92 N K152 n (sA σ 35 (((4 : Int32) * x4) + x9).toNatClampNeg (σ.2.2.1 29 (x7 + x9).toNatClampNeg)) x1 x2 x3 x4 x5 x6 x7 x8 (x9 + 1))))))
def fM_joinTop_L34 (N : Nat) (K161 : MSt → Int32 → Int32 → Int32 → Int32 → Int32 → Option (MSt)) : Nat → MSt → Int32 → Int32 → Int32 → Int32 → Int32 → Int32 → Option (MSt)
  | 0, _, _, _, _, _, _, _ => none
  | n + 1, σ, x1, x2, x3, x4, x5, x6 => chk x3 5 ((if (σ.2.2.1 30 x3.toNatClampNeg) ≤ x6 then K161 σ x1 x2 x3 x4 x5 else (fM_spot N σ x2 x5).bind fun r_49 => (fM_spot N σ x3 x6).bind fun r_58 => chk x2 5 (chk x3 5 ((fM_fits N σ (σ.2.2.1 31 x2.toNatClampNeg) (σ.2.2.1 31 x3.toNatClampNeg) r_49 r_58).bind fun r_80 => (if r_80 = 0 then fM_joinTop_L34 N K161 n σ x1 x2 x3 x4 x5 (x6 + 1) else fM_joinTop_L92 N (fun (σ : MSt) (x1 : Int32) (x2 : Int32) (x3 : Int32) (x4 : Int32) (x5 : Int32) (x6 : Int32) => fM_joinTop_L34 N K161 n σ x1 x2 x3 (x4 + 1) x5 (x6 + 1)) N σ x1 x2 x3 x4 x5 x6 r_49 r_58 (0 : Int32))))))
def fM_joinTop_L20 (N : Nat) (K167 : MSt → Int32 → Int32 → Int32 → Int32 → Option (MSt)) : Nat → MSt → Int32 → Int32 → Int32 → Int32 → Int32 → Option (MSt)
  | 0, _, _, _, _, _, _ => none
  | n + 1, σ, x1, x2, x3, x4, x5 => chk x2 5 ((if (σ.2.2.1 30 x2.toNatClampNeg) ≤ x5 then K167 σ x1 x2 x3 x4 else fM_joinTop_L34 N (fun (σ : MSt) (x1 : Int32) (x2 : Int32) (x3 : Int32) (x4 : Int32) (x5 : Int32) => fM_joinTop_L20 N K167 n σ x1 x2 x3 x4 (x5 + 1)) N σ x1 x2 x3 x4 x5 (0 : Int32)))
def fM_joinTop_L264 (N : Nat) (K300 : MSt → Int32 → Int32 → Option (MSt)) : Nat → MSt → Int32 → Int32 → Int32 → Int32 → Int32 → Option (MSt)
  | 0, _, _, _, _, _, _ => none
  | n + 1, σ, x1, x3, x4, x5, x6 => (if ((4 : Int32) * x4) ≤ x6 then K300 σ x1 x5 else (fM_spot N σ x3 (0 : Int32)).bind fun r_280 => chk x6 82944 (chk (r_280 + x6) 414720 (fM_joinTop_L264 N K300 n (sA σ 29 (r_280 + x6).toNatClampNeg (σ.2.2.1 35 x6.toNatClampNeg)) x1 x3 x4 x5 (x6 + 1))))
def fM_joinTop_J216 (N : Nat) (σ : MSt) (x1 : Int32) (x2 : Int32) (x3 : Int32) (x4 : Int32) (y1 : Int32) (y2 : Int32) : Option (MSt) := chk x2 5 (chk x3 5 ((fM_between N (sI σ 37 (y1 + y2)) ((sI σ 37 (y1 + y2)).2.2.1 31 x2.toNatClampNeg) ((sI σ 37 (y1 + y2)).2.2.1 31 x3.toNatClampNeg)).bind fun r_233 => chk x3 5 (chk x2 5 (chk x3 5 (chk x3 5 (fM_joinTop_L264 N (fun (σ : MSt) (x1 : Int32) (x5 : Int32) => (if x1 = (2 : Int32) then chk x5 4 (chk x5 4 ((fM_sort N (sI σ 36 ((σ.1 36) - (1 : Int32))) ((sI σ 36 ((σ.1 36) - (1 : Int32))).2.2.1 6 x5.toNatClampNeg) ((sI σ 36 ((σ.1 36) - (1 : Int32))).2.2.1 7 x5.toNatClampNeg)).bind fun r_330 => some r_330)) else some (sI σ 36 ((σ.1 36) - (1 : Int32))))) N (sA (sA (sI σ 37 (y1 + y2)) 31 x3.toNatClampNeg (((sI σ 37 (y1 + y2)).2.2.1 31 x3.toNatClampNeg) ||| ((sI σ 37 (y1 + y2)).2.2.1 31 x2.toNatClampNeg))) 30 x3.toNatClampNeg x4) x1 x3 x4 r_233 (0 : Int32)))))))
def fM_joinTop_J202 (N : Nat) (σ : MSt) (x1 : Int32) (x2 : Int32) (x3 : Int32) (x4 : Int32) (y1 : Int32) (y2 : Int32) : Option (MSt) := chk x2 5 (chk x3 5 (fM_joinTop_J216 N σ x1 x2 x3 x4 y1 (y2 * ((σ.2.2.1 30 x2.toNatClampNeg) + (σ.2.2.1 30 x3.toNatClampNeg)))))
def fM_joinTop (N : Nat) (σ : MSt) (x1 : Int32) : Option (MSt) := fM_joinTop_L20 N (fun (σ : MSt) (x1 : Int32) (x2 : Int32) (x3 : Int32) (x4 : Int32) => (if x1 = 0 then chk x2 5 (chk x3 5 (fM_joinTop_J216 N σ x1 x2 x3 x4 (σ.1 37) ((σ.2.2.1 30 x2.toNatClampNeg) * (σ.2.2.1 30 x3.toNatClampNeg)))) else (if x1 = (1 : Int32) then fM_joinTop_J202 N σ x1 x2 x3 x4 (σ.1 37) (2 : Int32) else fM_joinTop_J202 N σ x1 x2 x3 x4 (σ.1 37) (3 : Int32)))) N σ x1 ((σ.1 36) - (1 : Int32)) ((σ.1 36) - (2 : Int32)) (0 : Int32) (0 : Int32)
set_option maxRecDepth 100000 in
set_option maxHeartbeats 4000000 in
theorem wM_joinTop_L92 {p : Program} {l : Launch} {e : Env} {s : State} {m : MethodId} {args : Array Value} {below : List Frame} {meth : Method} {c : Code} {D : va_G} {κ : Nat → ClassId} {ρ : Nat → Nat} (C : MC p m c cX7_joinTop 10 s args wsX7_joinTop D κ) (hr : meth.sig.returnType = none) (hlk : meth.locks = false) (hD : DM (AM ρ s.heap.size) ρ) {N : Nat} {q : MSt} {K152 : MSt → Int32 → Int32 → Int32 → Int32 → Int32 → Int32 → Option (MSt)} : ∀ (n : Nat) (σ : MSt) (x1 : Int32) (x2 : Int32) (x3 : Int32) (x4 : Int32) (x5 : Int32) (x6 : Int32) (x7 : Int32) (x8 : Int32) (x9 : Int32) (H : Heap) (locs : List Loc) (ls : Array Slot), fM_joinTop_L92 N K152 n σ x1 x2 x3 x4 x5 x6 x7 x8 x9 = some q → va_P D vwCl (cellsM κ ρ σ) H → va_S (AM ρ s.heap.size) s.heap H locs → lv_has ls 10 [(0, .ref (ρ 40)), (1, .int x1), (2, .int x2), (3, .int x3), (4, .int x4), (5, .int x5), (6, .int x6), (7, .int x7), (8, .int x8), (9, .int x9)] → (∀ (σ : MSt) (x1 : Int32) (x2 : Int32) (x3 : Int32) (x4 : Int32) (x5 : Int32) (x6 : Int32) (H : Heap) (locs : List Loc) (ls : Array Slot), K152 σ x1 x2 x3 x4 x5 x6 = some q → va_P D vwCl (cellsM κ ρ σ) H → va_S (AM ρ s.heap.size) s.heap H locs → lv_has ls 10 [(0, .ref (ρ 40)), (1, .int x1), (2, .int x2), (3, .int x3), (4, .int x4), (5, .int x5), (6, .int x6)] → W p l e ({ frames := 2, cells := 0, slots := 0, locals := 53 } : Room) s m args below meth c H locs 0 0 (MQ below (QM D κ ρ s.heap.size q none) args s 0 0 (AM ρ s.heap.size)) (F0 m 152 ls [])) → W p l e ({ frames := 2, cells := 0, slots := 0, locals := 53 } : Room) s m args below meth c H locs 0 0 (MQ below (QM D κ ρ s.heap.size q none) args s 0 0 (AM ρ s.heap.size)) (F0 m 92 ls []) := by
  have hx := C.1.1
  have hb := C.1.2.1
  have hts := C.1.2.2.2.2
  have hown := C.1.2.2.2.1
  have k_102 := hts (.fieldLink RX7 102 "PlanCabinetModel" "lists" "[I") (by decide +kernel)
  have k_121 := hts (.fieldLink RX7 121 "PlanCabinetModel" "moved" "[I") (by decide +kernel)
  have in_7 : ∀ w ∈ wsX70, w ∈ wsX7_joinTop := by decide +kernel
  intro n
  induction n with
  | zero =>
    intro σ x1 x2 x3 x4 x5 x6 x7 x8 x9 H locs ls h hP hS hl hK152
    rw [fM_joinTop_L92] at h
    cases h
  | succ n ih =>
    intro σ x1 x2 x3 x4 x5 x6 x7 x8 x9 H locs ls h hP hS hl hK152
    rw [fM_joinTop_L92] at h
    refine lv_iload hx hb dX7_joinTop_92 (lv_at hl 9 rfl) ?_
    refine lv_iconst (v := (4 : Int32)) hx hb dX7_joinTop_94 (by decide) ?_
    refine lv_icmp_ge (tgt := 152) hx hb dX7_joinTop_95 (by decide) (fun c_95 => ?_) (fun c_95 => ?_)
    · have h := zz_pos c_95 h
      exact hK152 _ _ _ _ _ _ _ _ _ _ h hP hS (lv_sub hl [0, 1, 2, 3, 4, 5, 6] rfl)
    · have h := zz_neg c_95 h
      refine lv_aload_n hx hb dX7_joinTop_98 rfl (lv_at hl 0 rfl) ?_
      refine mG_35 C in_7 hP k_121 dX7_joinTop_99 ?_
      refine lv_iconst (v := (4 : Int32)) hx hb dX7_joinTop_102 (by decide) ?_
      refine lv_iload hx hb dX7_joinTop_103 (lv_at hl 4 rfl) ?_
      refine lv_imul hx hb dX7_joinTop_105 ?_
      refine lv_iload hx hb dX7_joinTop_106 (lv_at hl 9 rfl) ?_
      refine lv_iadd hx hb dX7_joinTop_108 ?_
      refine lv_aload_n hx hb dX7_joinTop_109 rfl (lv_at hl 0 rfl) ?_
      refine mG_29 C in_7 hP k_102 dX7_joinTop_110 ?_
      refine lv_iload hx hb dX7_joinTop_113 (lv_at hl 7 rfl) ?_
      refine lv_iload hx hb dX7_joinTop_115 (lv_at hl 9 rfl) ?_
      refine lv_iadd hx hb dX7_joinTop_117 ?_
      obtain ⟨b_118, h⟩ := chk_of h
      refine mL_29 C hP b_118 dX7_joinTop_118 ?_
      refine lv_if_lt (tgt := 135) hx hb dX7_joinTop_119 (by decide) (fun c_119 => ?_) (fun c_119 => ?_)
      · have h := zz_pos c_119 h
        refine lv_aload_n hx hb dX7_joinTop_135 rfl (lv_at hl 0 rfl) ?_
        refine mG_29 C in_7 hP k_102 dX7_joinTop_136 ?_
        refine lv_iload hx hb dX7_joinTop_139 (lv_at hl 8 rfl) ?_
        refine lv_iload hx hb dX7_joinTop_141 (lv_at hl 9 rfl) ?_
        refine lv_iadd hx hb dX7_joinTop_143 ?_
        obtain ⟨b_144, h⟩ := chk_of h
        refine mL_29 C hP b_144 dX7_joinTop_144 ?_
        obtain ⟨b_145, h⟩ := chk_of h
        refine mS_35 C hP hD hS b_145 dX7_joinTop_145 (fun H locs hP hS => ?_)
        refine lv_iinc (v := (x9 + 1)) (lv' := [(9, .int (x9 + 1)), (0, .ref (ρ 40)), (1, .int x1), (2, .int x2), (3, .int x3), (4, .int x4), (5, .int x5), (6, .int x6), (7, .int x7), (8, .int x8)]) hx hb dX7_joinTop_146 hl (k := 9) rfl rfl (by decide) rfl (fun ls hl => ?_)
        refine lv_goto (tgt := 92) hx hb dX7_joinTop_149 (by decide) ?_
        exact ih _ _ _ _ _ _ _ _ _ _ _ _ _ h hP hS (lv_sub hl [1, 2, 3, 4, 5, 6, 7, 8, 9, 0] rfl) hK152
      · have h := zz_neg c_119 h
        refine lv_aload_n hx hb dX7_joinTop_122 rfl (lv_at hl 0 rfl) ?_
        refine mG_29 C in_7 hP k_102 dX7_joinTop_123 ?_
        refine lv_iload hx hb dX7_joinTop_126 (lv_at hl 7 rfl) ?_
        refine lv_iload hx hb dX7_joinTop_128 (lv_at hl 9 rfl) ?_
        refine lv_iadd hx hb dX7_joinTop_130 ?_
        obtain ⟨b_131, h⟩ := chk_of h
        refine mL_29 C hP b_131 dX7_joinTop_131 ?_
        refine lv_goto (tgt := 145) hx hb dX7_joinTop_132 (by decide) ?_
        obtain ⟨b_145, h⟩ := chk_of h
        refine mS_35 C hP hD hS b_145 dX7_joinTop_145 (fun H locs hP hS => ?_)
        refine lv_iinc (v := (x9 + 1)) (lv' := [(9, .int (x9 + 1)), (0, .ref (ρ 40)), (1, .int x1), (2, .int x2), (3, .int x3), (4, .int x4), (5, .int x5), (6, .int x6), (7, .int x7), (8, .int x8)]) hx hb dX7_joinTop_146 hl (k := 9) rfl rfl (by decide) rfl (fun ls hl => ?_)
        refine lv_goto (tgt := 92) hx hb dX7_joinTop_149 (by decide) ?_
        exact ih _ _ _ _ _ _ _ _ _ _ _ _ _ h hP hS (lv_sub hl [1, 2, 3, 4, 5, 6, 7, 8, 9, 0] rfl) hK152
set_option maxRecDepth 100000 in
set_option maxHeartbeats 4000000 in
theorem wM_joinTop_L34 {p : Program} {l : Launch} {e : Env} {s : State} {m : MethodId} {args : Array Value} {below : List Frame} {meth : Method} {c : Code} {D : va_G} {κ : Nat → ClassId} {ρ : Nat → Nat} (C : MC p m c cX7_joinTop 10 s args wsX7_joinTop D κ) (hr : meth.sig.returnType = none) (hlk : meth.locks = false) (hD : DM (AM ρ s.heap.size) ρ) {N : Nat} {q : MSt} {K161 : MSt → Int32 → Int32 → Int32 → Int32 → Int32 → Option (MSt)} : ∀ (n : Nat) (σ : MSt) (x1 : Int32) (x2 : Int32) (x3 : Int32) (x4 : Int32) (x5 : Int32) (x6 : Int32) (H : Heap) (locs : List Loc) (ls : Array Slot), fM_joinTop_L34 N K161 n σ x1 x2 x3 x4 x5 x6 = some q → va_P D vwCl (cellsM κ ρ σ) H → va_S (AM ρ s.heap.size) s.heap H locs → lv_has ls 10 [(0, .ref (ρ 40)), (1, .int x1), (2, .int x2), (3, .int x3), (4, .int x4), (5, .int x5), (6, .int x6)] → (∀ (σ : MSt) (x1 : Int32) (x2 : Int32) (x3 : Int32) (x4 : Int32) (x5 : Int32) (H : Heap) (locs : List Loc) (ls : Array Slot), K161 σ x1 x2 x3 x4 x5 = some q → va_P D vwCl (cellsM κ ρ σ) H → va_S (AM ρ s.heap.size) s.heap H locs → lv_has ls 10 [(0, .ref (ρ 40)), (1, .int x1), (2, .int x2), (3, .int x3), (4, .int x4), (5, .int x5)] → W p l e ({ frames := 2, cells := 0, slots := 0, locals := 53 } : Room) s m args below meth c H locs 0 0 (MQ below (QM D κ ρ s.heap.size q none) args s 0 0 (AM ρ s.heap.size)) (F0 m 161 ls [])) → W p l e ({ frames := 2, cells := 0, slots := 0, locals := 53 } : Room) s m args below meth c H locs 0 0 (MQ below (QM D κ ρ s.heap.size q none) args s 0 0 (AM ρ s.heap.size)) (F0 m 34 ls []) := by
  have hx := C.1.1
  have hb := C.1.2.1
  have hts := C.1.2.2.2.2
  have hown := C.1.2.2.2.1
  have k_105 := hts (.fieldLink RX7 105 "PlanCabinetModel" "many" "[I") (by decide +kernel)
  have k_108 := hts (.fieldLink RX7 108 "PlanCabinetModel" "setOf" "[I") (by decide +kernel)
  have in_7 : ∀ w ∈ wsX70, w ∈ wsX7_joinTop := by decide +kernel
  intro n
  induction n with
  | zero =>
    intro σ x1 x2 x3 x4 x5 x6 H locs ls h hP hS hl hK161
    rw [fM_joinTop_L34] at h
    cases h
  | succ n ih =>
    intro σ x1 x2 x3 x4 x5 x6 H locs ls h hP hS hl hK161
    rw [fM_joinTop_L34] at h
    refine lv_iload hx hb dX7_joinTop_34 (lv_at hl 6 rfl) ?_
    refine lv_aload_n hx hb dX7_joinTop_36 rfl (lv_at hl 0 rfl) ?_
    refine mG_30 C in_7 hP k_105 dX7_joinTop_37 ?_
    refine lv_iload_n hx hb dX7_joinTop_40 rfl (lv_at hl 3 rfl) ?_
    obtain ⟨b_41, h⟩ := chk_of h
    refine mL_30 C hP b_41 dX7_joinTop_41 ?_
    refine lv_icmp_ge (tgt := 161) hx hb dX7_joinTop_42 (by decide) (fun c_42 => ?_) (fun c_42 => ?_)
    · have h := zz_pos c_42 h
      exact hK161 _ _ _ _ _ _ _ _ _ h hP hS (lv_sub hl [0, 1, 2, 3, 4, 5] rfl)
    · have h := zz_neg c_42 h
      refine lv_aload_n hx hb dX7_joinTop_45 rfl (lv_at hl 0 rfl) ?_
      refine lv_iload_n hx hb dX7_joinTop_46 rfl (lv_at hl 2 rfl) ?_
      refine lv_iload hx hb dX7_joinTop_47 (lv_at hl 5 rfl) ?_
      obtain ⟨r_49, e_49, h⟩ := bnd_of h
      refine callP (W.runV (As := [.int x2, .int x5]) C.1 (cM_spot e_49) (cwV 2 hts gX7_joinTop_X7_spot rfl rfl rfl (by decide +kernel) ⟨by decide, by decide⟩) (mPreR C.2 hP _) rfl rfl hl.1 rfl (lv_room (Nat.le_of_ble_eq_true rfl)) dX7_joinTop_49 ⟨Nat.zero_le _, Nat.zero_le _⟩) ?_
      refine lv_istore (lv' := [(7, .int r_49), (0, .ref (ρ 40)), (1, .int x1), (2, .int x2), (3, .int x3), (4, .int x4), (5, .int x5), (6, .int x6)]) hx hb dX7_joinTop_52 hl (by decide) rfl (fun ls hl => ?_)
      refine lv_aload_n hx hb dX7_joinTop_54 rfl (lv_at hl 1 rfl) ?_
      refine lv_iload_n hx hb dX7_joinTop_55 rfl (lv_at hl 4 rfl) ?_
      refine lv_iload hx hb dX7_joinTop_56 (lv_at hl 7 rfl) ?_
      obtain ⟨r_58, e_58, h⟩ := bnd_of h
      refine callP (W.runV (As := [.int x3, .int x6]) C.1 (cM_spot e_58) (cwV 2 hts gX7_joinTop_X7_spot rfl rfl rfl (by decide +kernel) ⟨by decide, by decide⟩) (mPreR C.2 hP _) rfl rfl hl.1 rfl (lv_room (Nat.le_of_ble_eq_true rfl)) dX7_joinTop_58 ⟨Nat.zero_le _, Nat.zero_le _⟩) ?_
      refine lv_istore (lv' := [(8, .int r_58), (7, .int r_49), (0, .ref (ρ 40)), (1, .int x1), (2, .int x2), (3, .int x3), (4, .int x4), (5, .int x5), (6, .int x6)]) hx hb dX7_joinTop_61 hl (by decide) rfl (fun ls hl => ?_)
      refine lv_aload_n hx hb dX7_joinTop_63 rfl (lv_at hl 2 rfl) ?_
      refine lv_aload_n hx hb dX7_joinTop_64 rfl (lv_at hl 2 rfl) ?_
      refine mG_31 C in_7 hP k_108 dX7_joinTop_65 ?_
      refine lv_iload_n hx hb dX7_joinTop_68 rfl (lv_at hl 4 rfl) ?_
      obtain ⟨b_69, h⟩ := chk_of h
      refine mL_31 C hP b_69 dX7_joinTop_69 ?_
      refine lv_aload_n hx hb dX7_joinTop_70 rfl (lv_at hl 2 rfl) ?_
      refine mG_31 C in_7 hP k_108 dX7_joinTop_71 ?_
      refine lv_iload_n hx hb dX7_joinTop_74 rfl (lv_at hl 5 rfl) ?_
      obtain ⟨b_75, h⟩ := chk_of h
      refine mL_31 C hP b_75 dX7_joinTop_75 ?_
      refine lv_iload hx hb dX7_joinTop_76 (lv_at hl 1 rfl) ?_
      refine lv_iload hx hb dX7_joinTop_78 (lv_at hl 0 rfl) ?_
      obtain ⟨r_80, e_80, h⟩ := bnd_of h
      refine callP (W.runV (As := [.int (σ.2.2.1 31 x2.toNatClampNeg), .int (σ.2.2.1 31 x3.toNatClampNeg), .int r_49, .int r_58]) C.1 (cM_fits e_80) (cwV 4 hts gX7_joinTop_X7_fits rfl rfl rfl (by decide +kernel) ⟨by decide, by decide⟩) (mPreR C.2 hP _) rfl rfl hl.1 rfl (lv_room (Nat.le_of_ble_eq_true rfl)) dX7_joinTop_80 ⟨Nat.zero_le _, Nat.zero_le _⟩) ?_
      refine lv_if_ne (tgt := 89) hx hb dX7_joinTop_83 (by decide) (fun c_83 => ?_) (fun c_83 => ?_)
      · have h := zz_neg c_83 h
        refine lv_iconst (v := (0 : Int32)) hx hb dX7_joinTop_89 (by decide) ?_
        refine lv_istore (lv' := [(9, .int (0 : Int32)), (8, .int r_58), (7, .int r_49), (0, .ref (ρ 40)), (1, .int x1), (2, .int x2), (3, .int x3), (4, .int x4), (5, .int x5), (6, .int x6)]) hx hb dX7_joinTop_90 hl (by decide) rfl (fun ls hl => ?_)
        refine wM_joinTop_L92 C hr hlk hD _ _ _ _ _ _ _ _ _ _ _ _ _ _ h hP hS (lv_sub hl [3, 4, 5, 6, 7, 8, 9, 2, 1, 0] rfl) ?_
        intro σ x1 x2 x3 x4 x5 x6 H locs ls h hP hS hl
        refine lv_iinc (v := (x4 + 1)) (lv' := [(4, .int (x4 + 1)), (0, .ref (ρ 40)), (1, .int x1), (2, .int x2), (3, .int x3), (5, .int x5), (6, .int x6)]) hx hb dX7_joinTop_152 hl (k := 4) rfl rfl (by decide) rfl (fun ls hl => ?_)
        refine lv_iinc (v := (x6 + 1)) (lv' := [(6, .int (x6 + 1)), (4, .int (x4 + 1)), (0, .ref (ρ 40)), (1, .int x1), (2, .int x2), (3, .int x3), (5, .int x5)]) hx hb dX7_joinTop_155 hl (k := 6) rfl rfl (by decide) rfl (fun ls hl => ?_)
        refine lv_goto (tgt := 34) hx hb dX7_joinTop_158 (by decide) ?_
        exact ih _ _ _ _ _ _ _ _ _ _ h hP hS (lv_sub hl [2, 3, 4, 5, 1, 6, 0] rfl) hK161
      · have h := zz_pos c_83 h
        refine lv_goto (tgt := 155) hx hb dX7_joinTop_86 (by decide) ?_
        refine lv_iinc (v := (x6 + 1)) (lv' := [(6, .int (x6 + 1)), (8, .int r_58), (7, .int r_49), (0, .ref (ρ 40)), (1, .int x1), (2, .int x2), (3, .int x3), (4, .int x4), (5, .int x5)]) hx hb dX7_joinTop_155 hl (k := 8) rfl rfl (by decide) rfl (fun ls hl => ?_)
        refine lv_goto (tgt := 34) hx hb dX7_joinTop_158 (by decide) ?_
        exact ih _ _ _ _ _ _ _ _ _ _ h hP hS (lv_sub hl [3, 4, 5, 6, 7, 8, 0] rfl) hK161
set_option maxRecDepth 100000 in
set_option maxHeartbeats 4000000 in
theorem wM_joinTop_L20 {p : Program} {l : Launch} {e : Env} {s : State} {m : MethodId} {args : Array Value} {below : List Frame} {meth : Method} {c : Code} {D : va_G} {κ : Nat → ClassId} {ρ : Nat → Nat} (C : MC p m c cX7_joinTop 10 s args wsX7_joinTop D κ) (hr : meth.sig.returnType = none) (hlk : meth.locks = false) (hD : DM (AM ρ s.heap.size) ρ) {N : Nat} {q : MSt} {K167 : MSt → Int32 → Int32 → Int32 → Int32 → Option (MSt)} : ∀ (n : Nat) (σ : MSt) (x1 : Int32) (x2 : Int32) (x3 : Int32) (x4 : Int32) (x5 : Int32) (H : Heap) (locs : List Loc) (ls : Array Slot), fM_joinTop_L20 N K167 n σ x1 x2 x3 x4 x5 = some q → va_P D vwCl (cellsM κ ρ σ) H → va_S (AM ρ s.heap.size) s.heap H locs → lv_has ls 10 [(0, .ref (ρ 40)), (1, .int x1), (2, .int x2), (3, .int x3), (4, .int x4), (5, .int x5)] → (∀ (σ : MSt) (x1 : Int32) (x2 : Int32) (x3 : Int32) (x4 : Int32) (H : Heap) (locs : List Loc) (ls : Array Slot), K167 σ x1 x2 x3 x4 = some q → va_P D vwCl (cellsM κ ρ σ) H → va_S (AM ρ s.heap.size) s.heap H locs → lv_has ls 10 [(0, .ref (ρ 40)), (1, .int x1), (2, .int x2), (3, .int x3), (4, .int x4)] → W p l e ({ frames := 2, cells := 0, slots := 0, locals := 53 } : Room) s m args below meth c H locs 0 0 (MQ below (QM D κ ρ s.heap.size q none) args s 0 0 (AM ρ s.heap.size)) (F0 m 167 ls [])) → W p l e ({ frames := 2, cells := 0, slots := 0, locals := 53 } : Room) s m args below meth c H locs 0 0 (MQ below (QM D κ ρ s.heap.size q none) args s 0 0 (AM ρ s.heap.size)) (F0 m 20 ls []) := by
  have hx := C.1.1
  have hb := C.1.2.1
  have hts := C.1.2.2.2.2
  have hown := C.1.2.2.2.1
  have k_105 := hts (.fieldLink RX7 105 "PlanCabinetModel" "many" "[I") (by decide +kernel)
  have in_7 : ∀ w ∈ wsX70, w ∈ wsX7_joinTop := by decide +kernel
  intro n
  induction n with
  | zero =>
    intro σ x1 x2 x3 x4 x5 H locs ls h hP hS hl hK167
    rw [fM_joinTop_L20] at h
    cases h
  | succ n ih =>
    intro σ x1 x2 x3 x4 x5 H locs ls h hP hS hl hK167
    rw [fM_joinTop_L20] at h
    refine lv_iload hx hb dX7_joinTop_20 (lv_at hl 5 rfl) ?_
    refine lv_aload_n hx hb dX7_joinTop_22 rfl (lv_at hl 0 rfl) ?_
    refine mG_30 C in_7 hP k_105 dX7_joinTop_23 ?_
    refine lv_iload_n hx hb dX7_joinTop_26 rfl (lv_at hl 2 rfl) ?_
    obtain ⟨b_27, h⟩ := chk_of h
    refine mL_30 C hP b_27 dX7_joinTop_27 ?_
    refine lv_icmp_ge (tgt := 167) hx hb dX7_joinTop_28 (by decide) (fun c_28 => ?_) (fun c_28 => ?_)
    · have h := zz_pos c_28 h
      exact hK167 _ _ _ _ _ _ _ _ h hP hS (lv_sub hl [0, 1, 2, 3, 4] rfl)
    · have h := zz_neg c_28 h
      refine lv_iconst (v := (0 : Int32)) hx hb dX7_joinTop_31 (by decide) ?_
      refine lv_istore (lv' := [(6, .int (0 : Int32)), (0, .ref (ρ 40)), (1, .int x1), (2, .int x2), (3, .int x3), (4, .int x4), (5, .int x5)]) hx hb dX7_joinTop_32 hl (by decide) rfl (fun ls hl => ?_)
      refine wM_joinTop_L34 C hr hlk hD _ _ _ _ _ _ _ _ _ _ _ h hP hS (lv_sub hl [1, 2, 3, 4, 5, 6, 0] rfl) ?_
      intro σ x1 x2 x3 x4 x5 H locs ls h hP hS hl
      refine lv_iinc (v := (x5 + 1)) (lv' := [(5, .int (x5 + 1)), (0, .ref (ρ 40)), (1, .int x1), (2, .int x2), (3, .int x3), (4, .int x4)]) hx hb dX7_joinTop_161 hl (k := 5) rfl rfl (by decide) rfl (fun ls hl => ?_)
      refine lv_goto (tgt := 20) hx hb dX7_joinTop_164 (by decide) ?_
      exact ih _ _ _ _ _ _ _ _ _ h hP hS (lv_sub hl [1, 2, 3, 4, 5, 0] rfl) hK167
set_option maxRecDepth 100000 in
set_option maxHeartbeats 4000000 in
theorem wM_joinTop_L264 {p : Program} {l : Launch} {e : Env} {s : State} {m : MethodId} {args : Array Value} {below : List Frame} {meth : Method} {c : Code} {D : va_G} {κ : Nat → ClassId} {ρ : Nat → Nat} (C : MC p m c cX7_joinTop 10 s args wsX7_joinTop D κ) (hr : meth.sig.returnType = none) (hlk : meth.locks = false) (hD : DM (AM ρ s.heap.size) ρ) {N : Nat} {q : MSt} {K300 : MSt → Int32 → Int32 → Option (MSt)} : ∀ (n : Nat) (σ : MSt) (x1 : Int32) (x3 : Int32) (x4 : Int32) (x5 : Int32) (x6 : Int32) (H : Heap) (locs : List Loc) (ls : Array Slot), fM_joinTop_L264 N K300 n σ x1 x3 x4 x5 x6 = some q → va_P D vwCl (cellsM κ ρ σ) H → va_S (AM ρ s.heap.size) s.heap H locs → lv_has ls 10 [(0, .ref (ρ 40)), (1, .int x1), (3, .int x3), (4, .int x4), (5, .int x5), (6, .int x6)] → (∀ (σ : MSt) (x1 : Int32) (x5 : Int32) (H : Heap) (locs : List Loc) (ls : Array Slot), K300 σ x1 x5 = some q → va_P D vwCl (cellsM κ ρ σ) H → va_S (AM ρ s.heap.size) s.heap H locs → lv_has ls 10 [(0, .ref (ρ 40)), (1, .int x1), (5, .int x5)] → W p l e ({ frames := 2, cells := 0, slots := 0, locals := 53 } : Room) s m args below meth c H locs 0 0 (MQ below (QM D κ ρ s.heap.size q none) args s 0 0 (AM ρ s.heap.size)) (F0 m 300 ls [])) → W p l e ({ frames := 2, cells := 0, slots := 0, locals := 53 } : Room) s m args below meth c H locs 0 0 (MQ below (QM D κ ρ s.heap.size q none) args s 0 0 (AM ρ s.heap.size)) (F0 m 264 ls []) := by
  have hx := C.1.1
  have hb := C.1.2.1
  have hts := C.1.2.2.2.2
  have hown := C.1.2.2.2.1
  have k_102 := hts (.fieldLink RX7 102 "PlanCabinetModel" "lists" "[I") (by decide +kernel)
  have k_121 := hts (.fieldLink RX7 121 "PlanCabinetModel" "moved" "[I") (by decide +kernel)
  have in_7 : ∀ w ∈ wsX70, w ∈ wsX7_joinTop := by decide +kernel
  intro n
  induction n with
  | zero =>
    intro σ x1 x3 x4 x5 x6 H locs ls h hP hS hl hK300
    rw [fM_joinTop_L264] at h
    cases h
  | succ n ih =>
    intro σ x1 x3 x4 x5 x6 H locs ls h hP hS hl hK300
    rw [fM_joinTop_L264] at h
    refine lv_iload hx hb dX7_joinTop_264 (lv_at hl 5 rfl) ?_
    refine lv_iconst (v := (4 : Int32)) hx hb dX7_joinTop_266 (by decide) ?_
    refine lv_iload hx hb dX7_joinTop_267 (lv_at hl 3 rfl) ?_
    refine lv_imul hx hb dX7_joinTop_269 ?_
    refine lv_icmp_ge (tgt := 300) hx hb dX7_joinTop_270 (by decide) (fun c_270 => ?_) (fun c_270 => ?_)
    · have h := zz_pos c_270 h
      exact hK300 _ _ _ _ _ _ h hP hS (lv_sub hl [0, 1, 4] rfl)
    · have h := zz_neg c_270 h
      refine lv_aload_n hx hb dX7_joinTop_273 rfl (lv_at hl 0 rfl) ?_
      refine mG_29 C in_7 hP k_102 dX7_joinTop_274 ?_
      refine lv_aload_n hx hb dX7_joinTop_277 rfl (lv_at hl 0 rfl) ?_
      refine lv_iload_n hx hb dX7_joinTop_278 rfl (lv_at hl 2 rfl) ?_
      refine lv_iconst (v := (0 : Int32)) hx hb dX7_joinTop_279 (by decide) ?_
      obtain ⟨r_280, e_280, h⟩ := bnd_of h
      refine callP (W.runV (As := [.int x3, .int (0 : Int32)]) C.1 (cM_spot e_280) (cwV 2 hts gX7_joinTop_X7_spot rfl rfl rfl (by decide +kernel) ⟨by decide, by decide⟩) (mPreR C.2 hP _) rfl rfl hl.1 rfl (lv_room (Nat.le_of_ble_eq_true rfl)) dX7_joinTop_280 ⟨Nat.zero_le _, Nat.zero_le _⟩) ?_
      refine lv_iload hx hb dX7_joinTop_283 (lv_at hl 5 rfl) ?_
      refine lv_iadd hx hb dX7_joinTop_285 ?_
      refine lv_aload_n hx hb dX7_joinTop_286 rfl (lv_at hl 0 rfl) ?_
      refine mG_35 C in_7 hP k_121 dX7_joinTop_287 ?_
      refine lv_iload hx hb dX7_joinTop_290 (lv_at hl 5 rfl) ?_
      obtain ⟨b_292, h⟩ := chk_of h
      refine mL_35 C hP b_292 dX7_joinTop_292 ?_
      obtain ⟨b_293, h⟩ := chk_of h
      refine mS_29 C hP hD hS b_293 dX7_joinTop_293 (fun H locs hP hS => ?_)
      refine lv_iinc (v := (x6 + 1)) (lv' := [(6, .int (x6 + 1)), (0, .ref (ρ 40)), (1, .int x1), (3, .int x3), (4, .int x4), (5, .int x5)]) hx hb dX7_joinTop_294 hl (k := 5) rfl rfl (by decide) rfl (fun ls hl => ?_)
      refine lv_goto (tgt := 264) hx hb dX7_joinTop_297 (by decide) ?_
      exact ih _ _ _ _ _ _ _ _ _ h hP hS (lv_sub hl [1, 2, 3, 4, 5, 0] rfl) hK300
set_option maxRecDepth 100000 in
set_option maxHeartbeats 4000000 in
theorem wM_joinTop_J216 {p : Program} {l : Launch} {e : Env} {s : State} {m : MethodId} {args : Array Value} {below : List Frame} {meth : Method} {c : Code} {D : va_G} {κ : Nat → ClassId} {ρ : Nat → Nat} (C : MC p m c cX7_joinTop 10 s args wsX7_joinTop D κ) (hr : meth.sig.returnType = none) (hlk : meth.locks = false) (hD : DM (AM ρ s.heap.size) ρ) {N : Nat} {q : MSt} : ∀ (σ : MSt) (x1 : Int32) (x2 : Int32) (x3 : Int32) (x4 : Int32) (y1 : Int32) (y2 : Int32) (H : Heap) (locs : List Loc) (ls : Array Slot), fM_joinTop_J216 N σ x1 x2 x3 x4 y1 y2 = some q → va_P D vwCl (cellsM κ ρ σ) H → va_S (AM ρ s.heap.size) s.heap H locs → lv_has ls 10 [(0, .ref (ρ 40)), (1, .int x1), (2, .int x2), (3, .int x3), (4, .int x4)] → W p l e ({ frames := 2, cells := 0, slots := 0, locals := 53 } : Room) s m args below meth c H locs 0 0 (MQ below (QM D κ ρ s.heap.size q none) args s 0 0 (AM ρ s.heap.size)) (F0 m 216 ls [.int y2, .int y1, .ref (ρ 40)]) := by
  have hx := C.1.1
  have hb := C.1.2.1
  have hts := C.1.2.2.2.2
  have hown := C.1.2.2.2.1
  have k_29 := hts (.fieldLink RX7 29 "PlanCabinetModel" "pairT" "[I") (by decide +kernel)
  have k_32 := hts (.fieldLink RX7 32 "PlanCabinetModel" "pairC" "[I") (by decide +kernel)
  have k_105 := hts (.fieldLink RX7 105 "PlanCabinetModel" "many" "[I") (by decide +kernel)
  have k_108 := hts (.fieldLink RX7 108 "PlanCabinetModel" "setOf" "[I") (by decide +kernel)
  have k_124 := hts (.fieldLink RX7 124 "PlanCabinetModel" "pile" "I") (by decide +kernel)
  have k_127 := hts (.fieldLink RX7 127 "PlanCabinetModel" "steps" "I") (by decide +kernel)
  have in_7 : ∀ w ∈ wsX70, w ∈ wsX7_joinTop := by decide +kernel
  intro σ x1 x2 x3 x4 y1 y2 H locs ls h hP hS hl
  unfold fM_joinTop_J216 at h
  refine lv_iadd hx hb dX7_joinTop_216 ?_
  refine mP_37 C in_7 hP hD hS k_127 dX7_joinTop_217 (fun H locs hP hS => ?_)
  refine lv_aload_n hx hb dX7_joinTop_220 rfl (lv_at hl 0 rfl) ?_
  refine lv_aload_n hx hb dX7_joinTop_221 rfl (lv_at hl 0 rfl) ?_
  refine mG_31 C in_7 hP k_108 dX7_joinTop_222 ?_
  refine lv_iload_n hx hb dX7_joinTop_225 rfl (lv_at hl 2 rfl) ?_
  obtain ⟨b_226, h⟩ := chk_of h
  refine mL_31 C hP b_226 dX7_joinTop_226 ?_
  refine lv_aload_n hx hb dX7_joinTop_227 rfl (lv_at hl 0 rfl) ?_
  refine mG_31 C in_7 hP k_108 dX7_joinTop_228 ?_
  refine lv_iload_n hx hb dX7_joinTop_231 rfl (lv_at hl 3 rfl) ?_
  obtain ⟨b_232, h⟩ := chk_of h
  refine mL_31 C hP b_232 dX7_joinTop_232 ?_
  obtain ⟨r_233, e_233, h⟩ := bnd_of h
  refine callP (W.runV (As := [.int ((sI σ 37 (y1 + y2)).2.2.1 31 x2.toNatClampNeg), .int ((sI σ 37 (y1 + y2)).2.2.1 31 x3.toNatClampNeg)]) C.1 (cM_between e_233) (cwV 2 hts gX7_joinTop_X7_between rfl rfl rfl (by decide +kernel) ⟨by decide, by decide⟩) (mPreR C.2 hP _) rfl rfl hl.1 rfl (lv_room (Nat.le_of_ble_eq_true rfl)) dX7_joinTop_233 ⟨Nat.zero_le _, Nat.zero_le _⟩) ?_
  refine lv_istore (lv' := [(5, .int r_233), (0, .ref (ρ 40)), (1, .int x1), (2, .int x2), (3, .int x3), (4, .int x4)]) hx hb dX7_joinTop_236 hl (by decide) rfl (fun ls hl => ?_)
  refine lv_aload_n hx hb dX7_joinTop_238 rfl (lv_at hl 1 rfl) ?_
  refine mG_31 C in_7 hP k_108 dX7_joinTop_239 ?_
  refine lv_iload_n hx hb dX7_joinTop_242 rfl (lv_at hl 4 rfl) ?_
  refine lv_dup2_11 hx hb dX7_joinTop_243 rfl rfl ?_
  obtain ⟨b_244, h⟩ := chk_of h
  refine mL_31 C hP b_244 dX7_joinTop_244 ?_
  refine lv_aload_n hx hb dX7_joinTop_245 rfl (lv_at hl 1 rfl) ?_
  refine mG_31 C in_7 hP k_108 dX7_joinTop_246 ?_
  refine lv_iload_n hx hb dX7_joinTop_249 rfl (lv_at hl 3 rfl) ?_
  obtain ⟨b_250, h⟩ := chk_of h
  refine mL_31 C hP b_250 dX7_joinTop_250 ?_
  refine lv_ior hx hb dX7_joinTop_251 ?_
  obtain ⟨b_252, h⟩ := chk_of h
  refine mS_31 C hP hD hS b_252 dX7_joinTop_252 (fun H locs hP hS => ?_)
  refine lv_aload_n hx hb dX7_joinTop_253 rfl (lv_at hl 1 rfl) ?_
  refine mG_30 C in_7 hP k_105 dX7_joinTop_254 ?_
  refine lv_iload_n hx hb dX7_joinTop_257 rfl (lv_at hl 4 rfl) ?_
  refine lv_iload hx hb dX7_joinTop_258 (lv_at hl 5 rfl) ?_
  obtain ⟨b_260, h⟩ := chk_of h
  refine mS_30 C hP hD hS b_260 dX7_joinTop_260 (fun H locs hP hS => ?_)
  refine lv_iconst (v := (0 : Int32)) hx hb dX7_joinTop_261 (by decide) ?_
  refine lv_istore (lv' := [(6, .int (0 : Int32)), (5, .int r_233), (0, .ref (ρ 40)), (1, .int x1), (2, .int x2), (3, .int x3), (4, .int x4)]) hx hb dX7_joinTop_262 hl (by decide) rfl (fun ls hl => ?_)
  refine wM_joinTop_L264 C hr hlk hD _ _ _ _ _ _ _ _ _ _ h hP hS (lv_sub hl [2, 3, 5, 6, 1, 0] rfl) ?_
  intro σ x1 x5 H locs ls h hP hS hl
  refine lv_aload_n hx hb dX7_joinTop_300 rfl (lv_at hl 0 rfl) ?_
  refine lv_dup hx hb dX7_joinTop_301 rfl ?_
  refine mG_36 C in_7 hP k_124 dX7_joinTop_302 ?_
  refine lv_iconst (v := (1 : Int32)) hx hb dX7_joinTop_305 (by decide) ?_
  refine lv_isub hx hb dX7_joinTop_306 ?_
  refine mP_36 C in_7 hP hD hS k_124 dX7_joinTop_307 (fun H locs hP hS => ?_)
  refine lv_iload_n hx hb dX7_joinTop_310 rfl (lv_at hl 1 rfl) ?_
  refine lv_iconst (v := (2 : Int32)) hx hb dX7_joinTop_311 (by decide) ?_
  refine lv_icmp_ne (tgt := 333) hx hb dX7_joinTop_312 (by decide) (fun c_312 => ?_) (fun c_312 => ?_)
  · have h := zz_neg c_312 h
    exact W.vret hx hb hr (fun t ht hW => ⟨rfl, by rw [ht, ← some_of h]; exact hP, hS.F ht⟩) hS.2.2 dX7_joinTop_333
  · have h := zz_pos c_312 h
    refine lv_aload_n hx hb dX7_joinTop_315 rfl (lv_at hl 0 rfl) ?_
    refine lv_aload_n hx hb dX7_joinTop_316 rfl (lv_at hl 0 rfl) ?_
    refine mG_6 C in_7 hP k_29 dX7_joinTop_317 ?_
    refine lv_iload hx hb dX7_joinTop_320 (lv_at hl 2 rfl) ?_
    obtain ⟨b_322, h⟩ := chk_of h
    refine mL_6 C hP b_322 dX7_joinTop_322 ?_
    refine lv_aload_n hx hb dX7_joinTop_323 rfl (lv_at hl 0 rfl) ?_
    refine mG_7 C in_7 hP k_32 dX7_joinTop_324 ?_
    refine lv_iload hx hb dX7_joinTop_327 (lv_at hl 2 rfl) ?_
    obtain ⟨b_329, h⟩ := chk_of h
    refine mL_7 C hP b_329 dX7_joinTop_329 ?_
    obtain ⟨r_330, e_330, h⟩ := bnd_of h
    refine mCall (va_runV (As := [.int ((sI σ 36 ((σ.1 36) - (1 : Int32))).2.2.1 6 x5.toNatClampNeg), .int ((sI σ 36 ((σ.1 36) - (1 : Int32))).2.2.1 7 x5.toNatClampNeg)]) C.1 (cM_sort e_330) (cwV 2 hts gX7_joinTop_X7_sort rfl rfl rfl (by decide +kernel) ⟨by decide, by decide⟩) (mPreM C.2 hP hD _) rfl rfl hl.1 rfl (lv_room (Nat.le_of_ble_eq_true rfl)) dX7_joinTop_330 ⟨Nat.zero_le _, Nat.zero_le _⟩) hS hD (fun _ h => Or.inr h) (fun H locs hP hS => ?_)
    exact W.vret hx hb hr (fun t ht hW => ⟨rfl, by rw [ht, ← some_of h]; exact hP, hS.F ht⟩) hS.2.2 dX7_joinTop_333
set_option maxRecDepth 100000 in
set_option maxHeartbeats 4000000 in
theorem wM_joinTop_J202 {p : Program} {l : Launch} {e : Env} {s : State} {m : MethodId} {args : Array Value} {below : List Frame} {meth : Method} {c : Code} {D : va_G} {κ : Nat → ClassId} {ρ : Nat → Nat} (C : MC p m c cX7_joinTop 10 s args wsX7_joinTop D κ) (hr : meth.sig.returnType = none) (hlk : meth.locks = false) (hD : DM (AM ρ s.heap.size) ρ) {N : Nat} {q : MSt} : ∀ (σ : MSt) (x1 : Int32) (x2 : Int32) (x3 : Int32) (x4 : Int32) (y1 : Int32) (y2 : Int32) (H : Heap) (locs : List Loc) (ls : Array Slot), fM_joinTop_J202 N σ x1 x2 x3 x4 y1 y2 = some q → va_P D vwCl (cellsM κ ρ σ) H → va_S (AM ρ s.heap.size) s.heap H locs → lv_has ls 10 [(0, .ref (ρ 40)), (1, .int x1), (2, .int x2), (3, .int x3), (4, .int x4)] → W p l e ({ frames := 2, cells := 0, slots := 0, locals := 53 } : Room) s m args below meth c H locs 0 0 (MQ below (QM D κ ρ s.heap.size q none) args s 0 0 (AM ρ s.heap.size)) (F0 m 202 ls [.int y2, .int y1, .ref (ρ 40)]) := by
  have hx := C.1.1
  have hb := C.1.2.1
  have hts := C.1.2.2.2.2
  have hown := C.1.2.2.2.1
  have k_105 := hts (.fieldLink RX7 105 "PlanCabinetModel" "many" "[I") (by decide +kernel)
  have in_7 : ∀ w ∈ wsX70, w ∈ wsX7_joinTop := by decide +kernel
  intro σ x1 x2 x3 x4 y1 y2 H locs ls h hP hS hl
  unfold fM_joinTop_J202 at h
  refine lv_aload_n hx hb dX7_joinTop_202 rfl (lv_at hl 0 rfl) ?_
  refine mG_30 C in_7 hP k_105 dX7_joinTop_203 ?_
  refine lv_iload_n hx hb dX7_joinTop_206 rfl (lv_at hl 2 rfl) ?_
  obtain ⟨b_207, h⟩ := chk_of h
  refine mL_30 C hP b_207 dX7_joinTop_207 ?_
  refine lv_aload_n hx hb dX7_joinTop_208 rfl (lv_at hl 0 rfl) ?_
  refine mG_30 C in_7 hP k_105 dX7_joinTop_209 ?_
  refine lv_iload_n hx hb dX7_joinTop_212 rfl (lv_at hl 3 rfl) ?_
  obtain ⟨b_213, h⟩ := chk_of h
  refine mL_30 C hP b_213 dX7_joinTop_213 ?_
  refine lv_iadd hx hb dX7_joinTop_214 ?_
  refine lv_imul hx hb dX7_joinTop_215 ?_
  exact wM_joinTop_J216 C hr hlk hD _ _ _ _ _ _ _ _ _ _ h hP hS (lv_sub hl [0, 1, 2, 3, 4] rfl)
set_option maxRecDepth 100000 in
set_option maxHeartbeats 4000000 in
theorem cM_joinTop {l : Launch} {D : va_G} {κ : Nat → ClassId} {ρ : Nat → Nat} {sz : Nat} {N : Nat} {σ : MSt} {x1 : Int32} {q : MSt} (h : fM_joinTop N σ x1 = some q) : Met l yX7_joinTop wsX7_joinTop ({ frames := 2, cells := 0, slots := 0, locals := 53 } : Room) (va_Pc [.ref (ρ 40), .int x1] (PM D κ ρ sz σ)) (QM D κ ρ sz q none) 0 0 (AM ρ sz) := by
  refine mMetM (ret := none) (by decide) rfl rfl (Nat.le_of_ble_eq_true rfl) ?_
  intro p e s m below meth c ls C hr hlk hD hP hl
  have hS : va_S (AM ρ s.heap.size) s.heap s.heap [] := va_S.rf
  have hl : lv_has ls 10 [(0, .ref (ρ 40)), (1, .int x1)] := hl
  unfold fM_joinTop at h
  have hx := C.1.1
  have hb := C.1.2.1
  have hts := C.1.2.2.2.2
  have hown := C.1.2.2.2.1
  have k_105 := hts (.fieldLink RX7 105 "PlanCabinetModel" "many" "[I") (by decide +kernel)
  have k_124 := hts (.fieldLink RX7 124 "PlanCabinetModel" "pile" "I") (by decide +kernel)
  have k_127 := hts (.fieldLink RX7 127 "PlanCabinetModel" "steps" "I") (by decide +kernel)
  have in_7 : ∀ w ∈ wsX70, w ∈ wsX7_joinTop := by decide +kernel
  refine lv_aload_n hx hb dX7_joinTop_0 rfl (lv_at hl 0 rfl) ?_
  refine mG_36 C in_7 hP k_124 dX7_joinTop_1 ?_
  refine lv_iconst (v := (1 : Int32)) hx hb dX7_joinTop_4 (by decide) ?_
  refine lv_isub hx hb dX7_joinTop_5 ?_
  refine lv_istore_n (lv' := [(2, .int ((σ.1 36) - (1 : Int32))), (0, .ref (ρ 40)), (1, .int x1)]) hx hb dX7_joinTop_6 rfl hl (by decide) rfl (fun ls hl => ?_)
  refine lv_aload_n hx hb dX7_joinTop_7 rfl (lv_at hl 1 rfl) ?_
  refine mG_36 C in_7 hP k_124 dX7_joinTop_8 ?_
  refine lv_iconst (v := (2 : Int32)) hx hb dX7_joinTop_11 (by decide) ?_
  refine lv_isub hx hb dX7_joinTop_12 ?_
  refine lv_istore_n (lv' := [(3, .int ((σ.1 36) - (2 : Int32))), (2, .int ((σ.1 36) - (1 : Int32))), (0, .ref (ρ 40)), (1, .int x1)]) hx hb dX7_joinTop_13 rfl hl (by decide) rfl (fun ls hl => ?_)
  refine lv_iconst (v := (0 : Int32)) hx hb dX7_joinTop_14 (by decide) ?_
  refine lv_istore (lv' := [(4, .int (0 : Int32)), (3, .int ((σ.1 36) - (2 : Int32))), (2, .int ((σ.1 36) - (1 : Int32))), (0, .ref (ρ 40)), (1, .int x1)]) hx hb dX7_joinTop_15 hl (by decide) rfl (fun ls hl => ?_)
  refine lv_iconst (v := (0 : Int32)) hx hb dX7_joinTop_17 (by decide) ?_
  refine lv_istore (lv' := [(5, .int (0 : Int32)), (4, .int (0 : Int32)), (3, .int ((σ.1 36) - (2 : Int32))), (2, .int ((σ.1 36) - (1 : Int32))), (0, .ref (ρ 40)), (1, .int x1)]) hx hb dX7_joinTop_18 hl (by decide) rfl (fun ls hl => ?_)
  refine wM_joinTop_L20 C hr hlk hD _ _ _ _ _ _ _ _ _ _ h hP hS (lv_sub hl [4, 5, 3, 2, 1, 0] rfl) ?_
  intro σ x1 x2 x3 x4 H locs ls h hP hS hl
  refine lv_aload_n hx hb dX7_joinTop_167 rfl (lv_at hl 0 rfl) ?_
  refine lv_dup hx hb dX7_joinTop_168 rfl ?_
  refine mG_37 C in_7 hP k_127 dX7_joinTop_169 ?_
  refine lv_iload_n hx hb dX7_joinTop_172 rfl (lv_at hl 1 rfl) ?_
  refine lv_if_ne (tgt := 192) hx hb dX7_joinTop_173 (by decide) (fun c_173 => ?_) (fun c_173 => ?_)
  · have h := zz_neg c_173 h
    refine lv_iload_n hx hb dX7_joinTop_192 rfl (lv_at hl 1 rfl) ?_
    refine lv_iconst (v := (1 : Int32)) hx hb dX7_joinTop_193 (by decide) ?_
    refine lv_icmp_ne (tgt := 201) hx hb dX7_joinTop_194 (by decide) (fun c_194 => ?_) (fun c_194 => ?_)
    · have h := zz_neg c_194 h
      refine lv_iconst (v := (3 : Int32)) hx hb dX7_joinTop_201 (by decide) ?_
      exact wM_joinTop_J202 C hr hlk hD _ _ _ _ _ _ _ _ _ _ h hP hS (lv_sub hl [0, 1, 2, 3, 4] rfl)
    · have h := zz_pos c_194 h
      refine lv_iconst (v := (2 : Int32)) hx hb dX7_joinTop_197 (by decide) ?_
      refine lv_goto (tgt := 202) hx hb dX7_joinTop_198 (by decide) ?_
      exact wM_joinTop_J202 C hr hlk hD _ _ _ _ _ _ _ _ _ _ h hP hS (lv_sub hl [0, 1, 2, 3, 4] rfl)
  · have h := zz_pos c_173 h
    refine lv_aload_n hx hb dX7_joinTop_176 rfl (lv_at hl 0 rfl) ?_
    refine mG_30 C in_7 hP k_105 dX7_joinTop_177 ?_
    refine lv_iload_n hx hb dX7_joinTop_180 rfl (lv_at hl 2 rfl) ?_
    obtain ⟨b_181, h⟩ := chk_of h
    refine mL_30 C hP b_181 dX7_joinTop_181 ?_
    refine lv_aload_n hx hb dX7_joinTop_182 rfl (lv_at hl 0 rfl) ?_
    refine mG_30 C in_7 hP k_105 dX7_joinTop_183 ?_
    refine lv_iload_n hx hb dX7_joinTop_186 rfl (lv_at hl 3 rfl) ?_
    obtain ⟨b_187, h⟩ := chk_of h
    refine mL_30 C hP b_187 dX7_joinTop_187 ?_
    refine lv_imul hx hb dX7_joinTop_188 ?_
    refine lv_goto (tgt := 216) hx hb dX7_joinTop_189 (by decide) ?_
    exact wM_joinTop_J216 C hr hlk hD _ _ _ _ _ _ _ _ _ _ h hP hS (lv_sub hl [0, 1, 2, 3, 4] rfl)
def fM_run_L35 (N : Nat) (K76 : MSt → Int32 → Option (Int32 × MSt)) : Nat → MSt → Int32 → Int32 → Option (Int32 × MSt)
  | 0, _, _, _ => none
  | n + 1, σ, x1, x3 => (if x3 < 0 then K76 σ x1 else (fM_code N σ x1 x3).bind fun r_42 => (if (4 : Int32) ≤ r_42 then (fM_joinTop N σ (r_42 - (4 : Int32))).bind fun r_67 => fM_run_L35 N K76 n r_67 x1 (x3 + (-1)) else (fM_readAll N σ r_42).bind fun r_56 => fM_run_L35 N K76 n r_56 x1 (x3 + (-1))))
def fM_run_L141 (N : Nat) : Nat → MSt → Int32 → Option (Int32 × MSt)
  | 0, _, _ => none
  | n + 1, σ, x3 => (if ((4 : Int32) * (σ.1 38)) ≤ x3 then some ((σ.1 38), σ) else chk x3 414720 (chk x3 82944 (fM_run_L141 N n (sA σ 39 x3.toNatClampNeg (σ.2.2.1 29 x3.toNatClampNeg)) (x3 + 1))))
def fM_run_J129 (N : Nat) (σ : MSt) : Option (Int32 × MSt) := chk (0 : Int32) 5 (fM_run_L141 N N (sI σ 38 (σ.2.2.1 30 (0 : Int32).toNatClampNeg)) (0 : Int32))
def fM_run (N : Nat) (σ : MSt) (x1 : Int32) : Option (Int32 × MSt) := (fM_isPlan N σ x1).bind fun r_2 => (if r_2 = 0 then some ((-1 : Int32), σ) else chk x1 60 ((fM_digits N (sI (sI σ 36 (0 : Int32)) 37 (0 : Int32)) ((sI (sI σ 36 (0 : Int32)) 37 (0 : Int32)).2.2.1 13 x1.toNatClampNeg)).bind fun r_27 => fM_run_L35 N (fun (σ : MSt) (x1 : Int32) => (fM_isWholePlan N σ x1).bind fun r_78 => (if r_78 = 0 then fM_run_J129 N σ else (if (σ.1 2) < 0 then fM_run_J129 N σ else (fM_about N σ x1 (2 : Int32)).bind fun r_94 => (if r_94.1 = 0 then chk (0 : Int32) 5 ((fM_sort N (sI r_94.2 37 ((r_94.2.1 37) + ((3 : Int32) * (r_94.2.2.2.1 30 (0 : Int32).toNatClampNeg)))) ((sI r_94.2 37 ((r_94.2.1 37) + ((3 : Int32) * (r_94.2.2.2.1 30 (0 : Int32).toNatClampNeg)))).1 2) ((sI r_94.2 37 ((r_94.2.1 37) + ((3 : Int32) * (r_94.2.2.2.1 30 (0 : Int32).toNatClampNeg)))).1 3)).bind fun r_126 => fM_run_J129 N r_126) else fM_run_J129 N r_94.2)))) N (sI (sI σ 36 (0 : Int32)) 37 (0 : Int32)) x1 (r_27 - (1 : Int32))))
set_option maxRecDepth 100000 in
set_option maxHeartbeats 4000000 in
theorem wM_run_L35 {p : Program} {l : Launch} {e : Env} {s : State} {m : MethodId} {args : Array Value} {below : List Frame} {meth : Method} {c : Code} {D : va_G} {κ : Nat → ClassId} {ρ : Nat → Nat} (C : MC p m c cX7_run 5 s args wsX7_run D κ) (hr : meth.sig.returnType = (some .int)) (hlk : meth.locks = false) (hD : DM (AM ρ s.heap.size) ρ) {N : Nat} {q : Int32 × MSt} {K76 : MSt → Int32 → Option (Int32 × MSt)} : ∀ (n : Nat) (σ : MSt) (x1 : Int32) (x3 : Int32) (H : Heap) (locs : List Loc) (ls : Array Slot), fM_run_L35 N K76 n σ x1 x3 = some q → va_P D vwCl (cellsM κ ρ σ) H → va_S (AM ρ s.heap.size) s.heap H locs → lv_has ls 5 [(0, .ref (ρ 40)), (1, .int x1), (3, .int x3)] → (∀ (σ : MSt) (x1 : Int32) (H : Heap) (locs : List Loc) (ls : Array Slot), K76 σ x1 = some q → va_P D vwCl (cellsM κ ρ σ) H → va_S (AM ρ s.heap.size) s.heap H locs → lv_has ls 5 [(0, .ref (ρ 40)), (1, .int x1)] → W p l e ({ frames := 6, cells := 0, slots := 0, locals := 140 } : Room) s m args below meth c H locs 0 0 (MQ below (QM D κ ρ s.heap.size q.2 (some (.int q.1))) args s 0 0 (AM ρ s.heap.size)) (F0 m 76 ls [])) → W p l e ({ frames := 6, cells := 0, slots := 0, locals := 140 } : Room) s m args below meth c H locs 0 0 (MQ below (QM D κ ρ s.heap.size q.2 (some (.int q.1))) args s 0 0 (AM ρ s.heap.size)) (F0 m 35 ls []) := by
  have hx := C.1.1
  have hb := C.1.2.1
  have hts := C.1.2.2.2.2
  have hown := C.1.2.2.2.1
  intro n
  induction n with
  | zero =>
    intro σ x1 x3 H locs ls h hP hS hl hK76
    rw [fM_run_L35] at h
    cases h
  | succ n ih =>
    intro σ x1 x3 H locs ls h hP hS hl hK76
    rw [fM_run_L35] at h
    refine lv_iload_n hx hb dX7_run_35 rfl (lv_at hl 2 rfl) ?_
    refine lv_if_lt (tgt := 76) hx hb dX7_run_36 (by decide) (fun c_36 => ?_) (fun c_36 => ?_)
    · have h := zz_pos c_36 h
      exact hK76 _ _ _ _ _ h hP hS (lv_sub hl [0, 1] rfl)
    · have h := zz_neg c_36 h
      refine lv_aload_n hx hb dX7_run_39 rfl (lv_at hl 0 rfl) ?_
      refine lv_iload_n hx hb dX7_run_40 rfl (lv_at hl 1 rfl) ?_
      refine lv_iload_n hx hb dX7_run_41 rfl (lv_at hl 2 rfl) ?_
      obtain ⟨r_42, e_42, h⟩ := bnd_of h
      refine callP (W.runV (As := [.int x1, .int x3]) C.1 (cM_code e_42) (cwV 2 hts gX7_run_X7_code rfl rfl rfl (by decide +kernel) ⟨by decide, by decide⟩) (mPreR C.2 hP _) rfl rfl hl.1 rfl (lv_room (Nat.le_of_ble_eq_true rfl)) dX7_run_42 ⟨Nat.zero_le _, Nat.zero_le _⟩) ?_
      refine lv_istore (lv' := [(4, .int r_42), (0, .ref (ρ 40)), (1, .int x1), (3, .int x3)]) hx hb dX7_run_45 hl (by decide) rfl (fun ls hl => ?_)
      refine lv_iload hx hb dX7_run_47 (lv_at hl 0 rfl) ?_
      refine lv_iconst (v := (4 : Int32)) hx hb dX7_run_49 (by decide) ?_
      refine lv_icmp_ge (tgt := 62) hx hb dX7_run_50 (by decide) (fun c_50 => ?_) (fun c_50 => ?_)
      · have h := zz_pos c_50 h
        refine lv_aload_n hx hb dX7_run_62 rfl (lv_at hl 1 rfl) ?_
        refine lv_iload hx hb dX7_run_63 (lv_at hl 0 rfl) ?_
        refine lv_iconst (v := (4 : Int32)) hx hb dX7_run_65 (by decide) ?_
        refine lv_isub hx hb dX7_run_66 ?_
        obtain ⟨r_67, e_67, h⟩ := bnd_of h
        refine mCall (va_runV (As := [.int (r_42 - (4 : Int32))]) C.1 (cM_joinTop e_67) (cwV 1 hts gX7_run_X7_joinTop rfl rfl rfl (by decide +kernel) ⟨by decide, by decide⟩) (mPreM C.2 hP hD _) rfl rfl hl.1 rfl (lv_room (Nat.le_of_ble_eq_true rfl)) dX7_run_67 ⟨Nat.zero_le _, Nat.zero_le _⟩) hS hD (fun _ h => Or.inr h) (fun H locs hP hS => ?_)
        refine lv_iinc (v := (x3 + (-1))) (lv' := [(3, .int (x3 + (-1))), (4, .int r_42), (0, .ref (ρ 40)), (1, .int x1)]) hx hb dX7_run_70 hl (k := 3) rfl rfl (by decide) rfl (fun ls hl => ?_)
        refine lv_goto (tgt := 35) hx hb dX7_run_73 (by decide) ?_
        exact ih _ _ _ _ _ _ h hP hS (lv_sub hl [2, 3, 0] rfl) hK76
      · have h := zz_neg c_50 h
        refine lv_aload_n hx hb dX7_run_53 rfl (lv_at hl 1 rfl) ?_
        refine lv_iload hx hb dX7_run_54 (lv_at hl 0 rfl) ?_
        obtain ⟨r_56, e_56, h⟩ := bnd_of h
        refine mCall (va_runV (As := [.int r_42]) C.1 (cM_readAll e_56) (cwV 1 hts gX7_run_X7_readAll rfl rfl rfl (by decide +kernel) ⟨by decide, by decide⟩) (mPreM C.2 hP hD _) rfl rfl hl.1 rfl (lv_room (Nat.le_of_ble_eq_true rfl)) dX7_run_56 ⟨Nat.zero_le _, Nat.zero_le _⟩) hS hD (fun _ h => Or.inr h) (fun H locs hP hS => ?_)
        refine lv_goto (tgt := 70) hx hb dX7_run_59 (by decide) ?_
        refine lv_iinc (v := (x3 + (-1))) (lv' := [(3, .int (x3 + (-1))), (4, .int r_42), (0, .ref (ρ 40)), (1, .int x1)]) hx hb dX7_run_70 hl (k := 3) rfl rfl (by decide) rfl (fun ls hl => ?_)
        refine lv_goto (tgt := 35) hx hb dX7_run_73 (by decide) ?_
        exact ih _ _ _ _ _ _ h hP hS (lv_sub hl [2, 3, 0] rfl) hK76
set_option maxRecDepth 100000 in
set_option maxHeartbeats 4000000 in
theorem wM_run_L141 {p : Program} {l : Launch} {e : Env} {s : State} {m : MethodId} {args : Array Value} {below : List Frame} {meth : Method} {c : Code} {D : va_G} {κ : Nat → ClassId} {ρ : Nat → Nat} (C : MC p m c cX7_run 5 s args wsX7_run D κ) (hr : meth.sig.returnType = (some .int)) (hlk : meth.locks = false) (hD : DM (AM ρ s.heap.size) ρ) {N : Nat} {q : Int32 × MSt} : ∀ (n : Nat) (σ : MSt) (x3 : Int32) (H : Heap) (locs : List Loc) (ls : Array Slot), fM_run_L141 N n σ x3 = some q → va_P D vwCl (cellsM κ ρ σ) H → va_S (AM ρ s.heap.size) s.heap H locs → lv_has ls 5 [(0, .ref (ρ 40)), (3, .int x3)] → W p l e ({ frames := 6, cells := 0, slots := 0, locals := 140 } : Room) s m args below meth c H locs 0 0 (MQ below (QM D κ ρ s.heap.size q.2 (some (.int q.1))) args s 0 0 (AM ρ s.heap.size)) (F0 m 141 ls []) := by
  have hx := C.1.1
  have hb := C.1.2.1
  have hts := C.1.2.2.2.2
  have hown := C.1.2.2.2.1
  have k_102 := hts (.fieldLink RX7 102 "PlanCabinetModel" "lists" "[I") (by decide +kernel)
  have k_130 := hts (.fieldLink RX7 130 "PlanCabinetModel" "outs" "I") (by decide +kernel)
  have k_133 := hts (.fieldLink RX7 133 "PlanCabinetModel" "outRow" "[I") (by decide +kernel)
  have in_7 : ∀ w ∈ wsX70, w ∈ wsX7_run := by decide +kernel
  intro n
  induction n with
  | zero =>
    intro σ x3 H locs ls h hP hS hl
    rw [fM_run_L141] at h
    cases h
  | succ n ih =>
    intro σ x3 H locs ls h hP hS hl
    rw [fM_run_L141] at h
    refine lv_iload_n hx hb dX7_run_141 rfl (lv_at hl 1 rfl) ?_
    refine lv_iconst (v := (4 : Int32)) hx hb dX7_run_142 (by decide) ?_
    refine lv_aload_n hx hb dX7_run_143 rfl (lv_at hl 0 rfl) ?_
    refine mG_38 C in_7 hP k_130 dX7_run_144 ?_
    refine lv_imul hx hb dX7_run_147 ?_
    refine lv_icmp_ge (tgt := 169) hx hb dX7_run_148 (by decide) (fun c_148 => ?_) (fun c_148 => ?_)
    · have h := zz_pos c_148 h
      refine lv_aload_n hx hb dX7_run_169 rfl (lv_at hl 0 rfl) ?_
      refine mG_38 C in_7 hP k_130 dX7_run_170 ?_
      exact W.iret hx hb hr (fun t ht hW => ⟨by rw [← some_of h], by rw [ht, ← some_of h]; exact hP, hS.F ht⟩) hS.2.2 dX7_run_173
    · have h := zz_neg c_148 h
      refine lv_aload_n hx hb dX7_run_151 rfl (lv_at hl 0 rfl) ?_
      refine mG_39 C in_7 hP k_133 dX7_run_152 ?_
      refine lv_iload_n hx hb dX7_run_155 rfl (lv_at hl 1 rfl) ?_
      refine lv_aload_n hx hb dX7_run_156 rfl (lv_at hl 0 rfl) ?_
      refine mG_29 C in_7 hP k_102 dX7_run_157 ?_
      refine lv_iload_n hx hb dX7_run_160 rfl (lv_at hl 1 rfl) ?_
      obtain ⟨b_161, h⟩ := chk_of h
      refine mL_29 C hP b_161 dX7_run_161 ?_
      obtain ⟨b_162, h⟩ := chk_of h
      refine mS_39 C hP hD hS b_162 dX7_run_162 (fun H locs hP hS => ?_)
      refine lv_iinc (v := (x3 + 1)) (lv' := [(3, .int (x3 + 1)), (0, .ref (ρ 40))]) hx hb dX7_run_163 hl (k := 1) rfl rfl (by decide) rfl (fun ls hl => ?_)
      refine lv_goto (tgt := 141) hx hb dX7_run_166 (by decide) ?_
      exact ih _ _ _ _ _ h hP hS (lv_sub hl [1, 0] rfl)
set_option maxRecDepth 100000 in
set_option maxHeartbeats 4000000 in
theorem wM_run_J129 {p : Program} {l : Launch} {e : Env} {s : State} {m : MethodId} {args : Array Value} {below : List Frame} {meth : Method} {c : Code} {D : va_G} {κ : Nat → ClassId} {ρ : Nat → Nat} (C : MC p m c cX7_run 5 s args wsX7_run D κ) (hr : meth.sig.returnType = (some .int)) (hlk : meth.locks = false) (hD : DM (AM ρ s.heap.size) ρ) {N : Nat} {q : Int32 × MSt} : ∀ (σ : MSt) (H : Heap) (locs : List Loc) (ls : Array Slot), fM_run_J129 N σ = some q → va_P D vwCl (cellsM κ ρ σ) H → va_S (AM ρ s.heap.size) s.heap H locs → lv_has ls 5 [(0, .ref (ρ 40))] → W p l e ({ frames := 6, cells := 0, slots := 0, locals := 140 } : Room) s m args below meth c H locs 0 0 (MQ below (QM D κ ρ s.heap.size q.2 (some (.int q.1))) args s 0 0 (AM ρ s.heap.size)) (F0 m 129 ls []) := by
  have hx := C.1.1
  have hb := C.1.2.1
  have hts := C.1.2.2.2.2
  have hown := C.1.2.2.2.1
  have k_105 := hts (.fieldLink RX7 105 "PlanCabinetModel" "many" "[I") (by decide +kernel)
  have k_130 := hts (.fieldLink RX7 130 "PlanCabinetModel" "outs" "I") (by decide +kernel)
  have in_7 : ∀ w ∈ wsX70, w ∈ wsX7_run := by decide +kernel
  intro σ H locs ls h hP hS hl
  unfold fM_run_J129 at h
  refine lv_aload_n hx hb dX7_run_129 rfl (lv_at hl 0 rfl) ?_
  refine lv_aload_n hx hb dX7_run_130 rfl (lv_at hl 0 rfl) ?_
  refine mG_30 C in_7 hP k_105 dX7_run_131 ?_
  refine lv_iconst (v := (0 : Int32)) hx hb dX7_run_134 (by decide) ?_
  obtain ⟨b_135, h⟩ := chk_of h
  refine mL_30 C hP b_135 dX7_run_135 ?_
  refine mP_38 C in_7 hP hD hS k_130 dX7_run_136 (fun H locs hP hS => ?_)
  refine lv_iconst (v := (0 : Int32)) hx hb dX7_run_139 (by decide) ?_
  refine lv_istore_n (lv' := [(3, .int (0 : Int32)), (0, .ref (ρ 40))]) hx hb dX7_run_140 rfl hl (by decide) rfl (fun ls hl => ?_)
  exact wM_run_L141 C hr hlk hD _ _ _ _ _ _ h hP hS (lv_sub hl [1, 0] rfl)
set_option maxRecDepth 100000 in
set_option maxHeartbeats 4000000 in
theorem cM_run {l : Launch} {D : va_G} {κ : Nat → ClassId} {ρ : Nat → Nat} {sz : Nat} {N : Nat} {σ : MSt} {x1 : Int32} {q : Int32 × MSt} (h : fM_run N σ x1 = some q) : Met l yX7_run wsX7_run ({ frames := 6, cells := 0, slots := 0, locals := 140 } : Room) (va_Pc [.ref (ρ 40), .int x1] (PM D κ ρ sz σ)) (QM D κ ρ sz q.2 (some (.int q.1))) 0 0 (AM ρ sz) := by
  refine mMetM (ret := (some .int)) (by decide) rfl rfl (Nat.le_of_ble_eq_true rfl) ?_
  intro p e s m below meth c ls C hr hlk hD hP hl
  have hS : va_S (AM ρ s.heap.size) s.heap s.heap [] := va_S.rf
  have hl : lv_has ls 5 [(0, .ref (ρ 40)), (1, .int x1)] := hl
  unfold fM_run at h
  have hx := C.1.1
  have hb := C.1.2.1
  have hts := C.1.2.2.2.2
  have hown := C.1.2.2.2.1
  have k_16 := hts (.fieldLink RX7 16 "PlanCabinetModel" "orderTable" "I") (by decide +kernel)
  have k_19 := hts (.fieldLink RX7 19 "PlanCabinetModel" "orderColumn" "I") (by decide +kernel)
  have k_50 := hts (.fieldLink RX7 50 "PlanCabinetModel" "planSet" "[I") (by decide +kernel)
  have k_105 := hts (.fieldLink RX7 105 "PlanCabinetModel" "many" "[I") (by decide +kernel)
  have k_124 := hts (.fieldLink RX7 124 "PlanCabinetModel" "pile" "I") (by decide +kernel)
  have k_127 := hts (.fieldLink RX7 127 "PlanCabinetModel" "steps" "I") (by decide +kernel)
  have in_7 : ∀ w ∈ wsX70, w ∈ wsX7_run := by decide +kernel
  refine lv_aload_n hx hb dX7_run_0 rfl (lv_at hl 0 rfl) ?_
  refine lv_iload_n hx hb dX7_run_1 rfl (lv_at hl 1 rfl) ?_
  obtain ⟨r_2, e_2, h⟩ := bnd_of h
  refine callP (W.runV (As := [.int x1]) C.1 (cM_isPlan e_2) (cwV 1 hts gX7_run_X7_isPlan rfl rfl rfl (by decide +kernel) ⟨by decide, by decide⟩) (mPreR C.2 hP _) rfl rfl hl.1 rfl (lv_room (Nat.le_of_ble_eq_true rfl)) dX7_run_2 ⟨Nat.zero_le _, Nat.zero_le _⟩) ?_
  refine lv_if_ne (tgt := 10) hx hb dX7_run_5 (by decide) (fun c_5 => ?_) (fun c_5 => ?_)
  · have h := zz_neg c_5 h
    refine lv_aload_n hx hb dX7_run_10 rfl (lv_at hl 0 rfl) ?_
    refine lv_iconst (v := (0 : Int32)) hx hb dX7_run_11 (by decide) ?_
    refine mP_36 C in_7 hP hD hS k_124 dX7_run_12 (fun H locs hP hS => ?_)
    refine lv_aload_n hx hb dX7_run_15 rfl (lv_at hl 0 rfl) ?_
    refine lv_iconst (v := (0 : Int32)) hx hb dX7_run_16 (by decide) ?_
    refine mP_37 C in_7 hP hD hS k_127 dX7_run_17 (fun H locs hP hS => ?_)
    refine lv_aload_n hx hb dX7_run_20 rfl (lv_at hl 0 rfl) ?_
    refine lv_aload_n hx hb dX7_run_21 rfl (lv_at hl 0 rfl) ?_
    refine mG_13 C in_7 hP k_50 dX7_run_22 ?_
    refine lv_iload_n hx hb dX7_run_25 rfl (lv_at hl 1 rfl) ?_
    obtain ⟨b_26, h⟩ := chk_of h
    refine mL_13 C hP b_26 dX7_run_26 ?_
    obtain ⟨r_27, e_27, h⟩ := bnd_of h
    refine callP (W.runV (As := [.int ((sI (sI σ 36 (0 : Int32)) 37 (0 : Int32)).2.2.1 13 x1.toNatClampNeg)]) C.1 (cM_digits e_27) (cwV 1 hts gX7_run_X7_digits rfl rfl rfl (by decide +kernel) ⟨by decide, by decide⟩) (mPreR C.2 hP _) rfl rfl hl.1 rfl (lv_room (Nat.le_of_ble_eq_true rfl)) dX7_run_27 ⟨Nat.zero_le _, Nat.zero_le _⟩) ?_
    refine lv_istore_n (lv' := [(2, .int r_27), (0, .ref (ρ 40)), (1, .int x1)]) hx hb dX7_run_30 rfl hl (by decide) rfl (fun ls hl => ?_)
    refine lv_iload_n hx hb dX7_run_31 rfl (lv_at hl 0 rfl) ?_
    refine lv_iconst (v := (1 : Int32)) hx hb dX7_run_32 (by decide) ?_
    refine lv_isub hx hb dX7_run_33 ?_
    refine lv_istore_n (lv' := [(3, .int (r_27 - (1 : Int32))), (2, .int r_27), (0, .ref (ρ 40)), (1, .int x1)]) hx hb dX7_run_34 rfl hl (by decide) rfl (fun ls hl => ?_)
    refine wM_run_L35 C hr hlk hD _ _ _ _ _ _ _ h hP hS (lv_sub hl [2, 3, 0] rfl) ?_
    intro σ x1 H locs ls h hP hS hl
    refine lv_aload_n hx hb dX7_run_76 rfl (lv_at hl 0 rfl) ?_
    refine lv_iload_n hx hb dX7_run_77 rfl (lv_at hl 1 rfl) ?_
    obtain ⟨r_78, e_78, h⟩ := bnd_of h
    refine callP (W.runV (As := [.int x1]) C.1 (cM_isWholePlan e_78) (cwV 1 hts gX7_run_X7_isWholePlan rfl rfl rfl (by decide +kernel) ⟨by decide, by decide⟩) (mPreR C.2 hP _) rfl rfl hl.1 rfl (lv_room (Nat.le_of_ble_eq_true rfl)) dX7_run_78 ⟨Nat.zero_le _, Nat.zero_le _⟩) ?_
    refine lv_if_eq (tgt := 129) hx hb dX7_run_81 (by decide) (fun c_81 => ?_) (fun c_81 => ?_)
    · have h := zz_pos c_81 h
      exact wM_run_J129 C hr hlk hD _ _ _ _ h hP hS (lv_sub hl [0] rfl)
    · have h := zz_neg c_81 h
      refine lv_aload_n hx hb dX7_run_84 rfl (lv_at hl 0 rfl) ?_
      refine mG_2 C in_7 hP k_16 dX7_run_85 ?_
      refine lv_if_lt (tgt := 129) hx hb dX7_run_88 (by decide) (fun c_88 => ?_) (fun c_88 => ?_)
      · have h := zz_pos c_88 h
        exact wM_run_J129 C hr hlk hD _ _ _ _ h hP hS (lv_sub hl [0] rfl)
      · have h := zz_neg c_88 h
        refine lv_aload_n hx hb dX7_run_91 rfl (lv_at hl 0 rfl) ?_
        refine lv_iload_n hx hb dX7_run_92 rfl (lv_at hl 1 rfl) ?_
        refine lv_iconst (v := (2 : Int32)) hx hb dX7_run_93 (by decide) ?_
        obtain ⟨r_94, e_94, h⟩ := bnd_of h
        refine mCall (va_runV (As := [.int x1, .int (2 : Int32)]) C.1 (cM_about e_94) (cwV 2 hts gX7_run_X7_about rfl rfl rfl (by decide +kernel) ⟨by decide, by decide⟩) (mPreM C.2 hP hD _) rfl rfl hl.1 rfl (lv_room (Nat.le_of_ble_eq_true rfl)) dX7_run_94 ⟨Nat.zero_le _, Nat.zero_le _⟩) hS hD (fun _ h => Or.inr h) (fun H locs hP hS => ?_)
        refine lv_if_ne (tgt := 129) hx hb dX7_run_97 (by decide) (fun c_97 => ?_) (fun c_97 => ?_)
        · have h := zz_neg c_97 h
          exact wM_run_J129 C hr hlk hD _ _ _ _ h hP hS (lv_sub hl [0] rfl)
        · have h := zz_pos c_97 h
          refine lv_aload_n hx hb dX7_run_100 rfl (lv_at hl 0 rfl) ?_
          refine lv_dup hx hb dX7_run_101 rfl ?_
          refine mG_37 C in_7 hP k_127 dX7_run_102 ?_
          refine lv_iconst (v := (3 : Int32)) hx hb dX7_run_105 (by decide) ?_
          refine lv_aload_n hx hb dX7_run_106 rfl (lv_at hl 0 rfl) ?_
          refine mG_30 C in_7 hP k_105 dX7_run_107 ?_
          refine lv_iconst (v := (0 : Int32)) hx hb dX7_run_110 (by decide) ?_
          obtain ⟨b_111, h⟩ := chk_of h
          refine mL_30 C hP b_111 dX7_run_111 ?_
          refine lv_imul hx hb dX7_run_112 ?_
          refine lv_iadd hx hb dX7_run_113 ?_
          refine mP_37 C in_7 hP hD hS k_127 dX7_run_114 (fun H locs hP hS => ?_)
          refine lv_aload_n hx hb dX7_run_117 rfl (lv_at hl 0 rfl) ?_
          refine lv_aload_n hx hb dX7_run_118 rfl (lv_at hl 0 rfl) ?_
          refine mG_2 C in_7 hP k_16 dX7_run_119 ?_
          refine lv_aload_n hx hb dX7_run_122 rfl (lv_at hl 0 rfl) ?_
          refine mG_3 C in_7 hP k_19 dX7_run_123 ?_
          obtain ⟨r_126, e_126, h⟩ := bnd_of h
          refine mCall (va_runV (As := [.int ((sI r_94.2 37 ((r_94.2.1 37) + ((3 : Int32) * (r_94.2.2.2.1 30 (0 : Int32).toNatClampNeg)))).1 2), .int ((sI r_94.2 37 ((r_94.2.1 37) + ((3 : Int32) * (r_94.2.2.2.1 30 (0 : Int32).toNatClampNeg)))).1 3)]) C.1 (cM_sort e_126) (cwV 2 hts gX7_run_X7_sort rfl rfl rfl (by decide +kernel) ⟨by decide, by decide⟩) (mPreM C.2 hP hD _) rfl rfl hl.1 rfl (lv_room (Nat.le_of_ble_eq_true rfl)) dX7_run_126 ⟨Nat.zero_le _, Nat.zero_le _⟩) hS hD (fun _ h => Or.inr h) (fun H locs hP hS => ?_)
          exact wM_run_J129 C hr hlk hD _ _ _ _ h hP hS (lv_sub hl [0] rfl)
  · have h := zz_pos c_5 h
    refine lv_iconst (v := (-1 : Int32)) hx hb dX7_run_8 (by decide) ?_
    exact W.iret hx hb hr (fun t ht hW => ⟨by rw [← some_of h], by rw [ht, ← some_of h]; exact hP, hS.F ht⟩) hS.2.2 dX7_run_9
