theorem dX6_isPoint_0 : decode cX6_isPoint 0 = .ok (.iload_n 0, 1) := by decide +kernel
theorem dX6_isPoint_1 : decode cX6_isPoint 1 = .ok (.ifCond .lt 13, 3) := by decide +kernel
theorem dX6_isPoint_4 : decode cX6_isPoint 4 = .ok (.iload_n 0, 1) := by decide +kernel
theorem dX6_isPoint_5 : decode cX6_isPoint 5 = .ok (.bipush 33, 2) := by decide +kernel
theorem dX6_isPoint_7 : decode cX6_isPoint 7 = .ok (.if_icmp .ge 7, 3) := by decide +kernel
theorem dX6_isPoint_10 : decode cX6_isPoint 10 = .ok (.iconst 1, 1) := by decide +kernel
theorem dX6_isPoint_11 : decode cX6_isPoint 11 = .ok (.goto 4, 3) := by decide +kernel
theorem dX6_isPoint_14 : decode cX6_isPoint 14 = .ok (.iconst 0, 1) := by decide +kernel
theorem dX6_isPoint_15 : decode cX6_isPoint 15 = .ok (.ireturn, 1) := by decide +kernel
def fC_isPoint (N : Nat) (x0 : Int32) : Option (Int32) := (if x0 < 0 then some (0 : Int32) else (if (33 : Int32) ≤ x0 then some (0 : Int32) else some (1 : Int32)))
set_option maxRecDepth 100000 in
set_option maxHeartbeats 4000000 in
theorem cC_isPoint {l : Launch} {N : Nat}  {x0 : Int32} {r : Int32} (h : fC_isPoint N x0 = some r) : Met l yX6_isPoint wsX6_isPoint ({ frames := 0, cells := 0, slots := 0, locals := 0 } : Room) (va_Pc [.int x0] (fun _ => True)) (PU (some (.int r))) 0 0 (fun _ => False) := by
  refine sMet (ret := (some .boolean)) (by decide) rfl rfl (Nat.le_of_ble_eq_true rfl) ?_
  intro p e s m below meth c ls C hr hlk hl
  have hl : lv_has ls 1 [(0, .int x0)] := hl
  unfold fC_isPoint at h
  have hx := C.1
  have hb := C.2.1
  have hts := C.2.2.2.2
  have hown := C.2.2.2.1
  refine lv_iload_n hx hb dX6_isPoint_0 rfl (lv_at hl 0 rfl) ?_
  refine lv_if_lt (tgt := 14) hx hb dX6_isPoint_1 (by decide) (fun c_1 => ?_) (fun c_1 => ?_)
  · have h := zz_pos c_1 h
    refine lv_iconst (v := (0 : Int32)) hx hb dX6_isPoint_14 (by decide) ?_
    exact W.zret (ty := .boolean) hx hb hr (by decide +kernel) (fun t ht hW => ⟨by rw [some_of h], ht⟩) (fun _ h => by cases h) dX6_isPoint_15
  · have h := zz_neg c_1 h
    refine lv_iload_n hx hb dX6_isPoint_4 rfl (lv_at hl 0 rfl) ?_
    refine lv_bipush (v := (33 : Int32)) hx hb dX6_isPoint_5 (by decide) ?_
    refine lv_icmp_ge (tgt := 14) hx hb dX6_isPoint_7 (by decide) (fun c_7 => ?_) (fun c_7 => ?_)
    · have h := zz_pos c_7 h
      refine lv_iconst (v := (0 : Int32)) hx hb dX6_isPoint_14 (by decide) ?_
      exact W.zret (ty := .boolean) hx hb hr (by decide +kernel) (fun t ht hW => ⟨by rw [some_of h], ht⟩) (fun _ h => by cases h) dX6_isPoint_15
    · have h := zz_neg c_7 h
      refine lv_iconst (v := (1 : Int32)) hx hb dX6_isPoint_10 (by decide) ?_
      refine lv_goto (tgt := 15) hx hb dX6_isPoint_11 (by decide) ?_
      exact W.zret (ty := .boolean) hx hb hr (by decide +kernel) (fun t ht hW => ⟨by rw [some_of h], ht⟩) (fun _ h => by cases h) dX6_isPoint_15
