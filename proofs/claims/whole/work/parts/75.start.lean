theorem va_P_right {D : va_G} {cl : List vw_C} {w1 w2 : va_W} {H : Heap} (h : va_P D cl (w1 ++ w2) H) : va_P D cl w2 H := fun k q hk => h (w1.length + k) q (by rw [List.getElem?_append_right (Nat.le_add_right _ _), Nat.add_sub_cancel_left]; exact hk)
theorem va_D_right {A : Nat → Prop} {w1 w2 : va_W} (h : va_D A (w1 ++ w2)) : va_D A w2 := by
  have key : ∀ (k : Nat) (q : Nat × va_E), w2[k]? = some q → (w1 ++ w2)[w1.length + k]? = some q := fun k q hk => by rw [List.getElem?_append_right (Nat.le_add_right _ _), Nat.add_sub_cancel_left]; exact hk
  exact ⟨fun i j x y hi hj hxy => by have := h.1 _ _ x y (key i x hi) (key j y hj) hxy; omega, fun k q hk => h.2 _ q (key k q hk)⟩
theorem va_D_apart {A : Nat → Prop} {w1 w2 : va_W} (h : va_D A (w1 ++ w2)) {a : Nat} (h2 : a ∈ w2.map (fun q => q.1)) (h1 : a ∈ w1.map (fun q => q.1)) : False := by
  obtain ⟨q1, m1, e1⟩ := List.mem_map.mp h1
  obtain ⟨q2, m2, e2⟩ := List.mem_map.mp h2
  obtain ⟨i, hi⟩ := List.getElem?_of_mem m1
  obtain ⟨j, hj⟩ := List.getElem?_of_mem m2
  have hl := (List.getElem?_eq_some_iff.mp hi).1
  have := h.1 i (w1.length + j) q1 q2 (by rw [List.getElem?_append_left hl]; exact hi) (by rw [List.getElem?_append_right (Nat.le_add_right _ _), Nat.add_sub_cancel_left]; exact hj) (e1.trans e2.symm)
  omega
set_option maxRecDepth 100000 in
set_option maxHeartbeats 8000000 in
/-- the law from its entry, if class and reference never part -/
theorem whole_start_open (HP : LawPure) {p : Program} {e : Env} {s : State} {m : MethodId} {below : List Frame} {meth : Method} {c : Code} (l : Launch) {b L : Nat} {xs : Nat → Int32} (hL : L ≤ 3072) (C0 : lw_At p s m meth c b L xs) : W p l e room_1 s m #[Value.ref b] below meth c s.heap [] 0 0 (lw_Z below #[Value.ref b] s) (entryFrame m ([Value.ref b] : List Value).toArray 4) := by
  obtain ⟨hx, hb, hr, hml, hown, hts0, hX, hbl, hlocks, hgv⟩ := id C0
  obtain ⟨N, HP⟩ := HP
  have hown : s.vm.findClass RL = some m.cls := hown
  have hts : ∀ w ∈ wsL_law, w.before #[Value.ref b] s = true := fun w h => hts0 w (wsL_law_in w h)
  have C : CallFix p m c cL_law 4 s #[Value.ref b] wsL_law RL := ⟨hx, hb, hml, hown, hts⟩
  have hA : ∀ q : Nat, s.heap.size ≤ q → (fun q : Nat => s.heap.size ≤ q) q := fun _ h => h
  obtain ⟨c0, i0, hKn0⟩ := u_known (C := RX0) (T := TX0) (N := 10) (n := 10) hts0 wsX00_in (hts0 (.instantiable RX0 10) (List.mem_of_getElem? (i := 160) (by decide +kernel)))
  obtain ⟨c1, i1, hKn1⟩ := u_known (C := RX1) (T := TX1) (N := 5) (n := 5) hts0 wsX10_in (hts0 (.instantiable RX1 5) (List.mem_of_getElem? (i := 402) (by decide +kernel)))
  obtain ⟨c2, i2, hKn2⟩ := u_known (C := RX2) (T := TX2) (N := 3) (n := 3) hts0 wsX20_in (hts0 (.instantiable RX2 3) (List.mem_of_getElem? (i := 143) (by decide +kernel)))
  obtain ⟨c3, i3, hKn3⟩ := u_known (C := RX3) (T := TX3) (N := 13) (n := 13) hts0 wsX30_in (hts0 (.instantiable RX3 13) (List.mem_of_getElem? (i := 85) (by decide +kernel)))
  obtain ⟨c4, i4, hKn4⟩ := u_known (C := RX4) (T := TX4) (N := 13) (n := 13) hts0 wsX40_in (hts0 (.instantiable RX4 13) (List.mem_of_getElem? (i := 229) (by decide +kernel)))
  obtain ⟨c5, i5, hKn5⟩ := u_known (C := RX5) (T := TX5) (N := 7) (n := 7) hts0 wsX50_in (hts0 (.instantiable RX5 7) (List.mem_of_getElem? (i := 198) (by decide +kernel)))
  obtain ⟨c6, i6, hKn6⟩ := u_known (C := RX6) (T := TX6) (N := 9) (n := 9) hts0 wsX60_in (hts0 (.instantiable RX6 9) (List.mem_of_getElem? (i := 77) (by decide +kernel)))
  obtain ⟨c7, i7, hKn7⟩ := u_known (C := RX7) (T := TX7) (N := 40) (n := 40) hts0 wsX70_in (hts0 (.instantiable RX7 40) (List.mem_of_getElem? (i := 812) (by decide +kernel)))
  obtain ⟨D, hKc⟩ : ∃ D : va_G, ∀ (k : Nat) (q : vw_C), vwCl[k]? = some q → u_Kn s q.1 q.2.1 q.2.2 (D.1 k) (D.2 k) := by
    refine ⟨(fun k => if k = 0 then c0 else if k = 1 then c1 else if k = 2 then c2 else if k = 3 then c3 else if k = 4 then c4 else if k = 5 then c5 else if k = 6 then c6 else c7, fun k => if k = 0 then i0 else if k = 1 then i1 else if k = 2 then i2 else if k = 3 then i3 else if k = 4 then i4 else if k = 5 then i5 else if k = 6 then i6 else i7), ?_⟩
    intro k q hq
    match k, hq with
    | 0, hq => cases hq; exact hKn0
    | 1, hq => cases hq; exact hKn1
    | 2, hq => cases hq; exact hKn2
    | 3, hq => cases hq; exact hKn3
    | 4, hq => cases hq; exact hKn4
    | 5, hq => cases hq; exact hKn5
    | 6, hq => cases hq; exact hKn6
    | 7, hq => cases hq; exact hKn7
    | k + 8, hq => simp [vwCl] at hq
  have hao : va_AO "PlanCabinet$Plan" s := va_AO.of (hts0 (.arrayOver (.object "PlanCabinet$Plan")) (List.mem_of_getElem? (i := 204) (by decide +kernel)))
  have hnw : va_Nw (.methodLinkNest RX6 13 yX3_init "PlanCabinet") s := va_Nw.of rfl (hts0 (.methodLinkNest RX6 13 yX3_init "PlanCabinet") (List.mem_of_getElem? (i := 86) (by decide +kernel)))
  have hNW : NW s := va_Nw.of rfl (hts0 (.methodLinkNest RX5 95 yX6_isPoint "PlanCabinet") (List.mem_of_getElem? (i := 645) (by decide +kernel)))
  have hS : va_S (fun q : Nat => s.heap.size ≤ q) s.heap s.heap [] := va_S.rf
  have hK : va_K D vwCl [] s := ⟨hKc, fun k q h => by simp at h⟩
  have hP : va_P D vwCl [] s.heap := fun k q h => by simp at h
  have hD : va_D (fun q : Nat => s.heap.size ≤ q) [] := ⟨fun i j p q h => by simp at h, fun k q h => by simp at h⟩
  have hl := lv_entry ([.ref b]) (n := 4) (Nat.le_of_ble_eq_true rfl)
  rw [lg_entry_eq]
  generalize (lg_sl ([.ref b]) ++ List.replicate (4 - (lg_sl ([.ref b])).length) Slot.unset).toArray = ls at hl ⊢
  have hl : lv_has ls 4 [(0, .ref b)] := hl
  refine va_new (ci := 6) (fs := [.null, .null, .null, .null, .null, .null, .int 0, .int 0, .int 0]) (C := RX6) (T := TX6) (N := 9) hx hb hts0 wsX60_in tyX6 tyX6_ok hown (hts0 (.classLink RL 7 RX6) (List.mem_of_getElem? (i := 76) (by decide +kernel))) (hts0 (.instantiable RX6 9) (List.mem_of_getElem? (i := 77) (by decide +kernel))) (hts0 (.initialized RX6) (List.mem_of_getElem? (i := 65) (by decide +kernel))) hK hP hD hS hA rfl (fun j hj => by rcases (show j = 0 ∨ j = 1 ∨ j = 2 ∨ j = 3 ∨ j = 4 ∨ j = 5 ∨ j = 6 ∨ j = 7 ∨ j = 8 by omega) with rfl | rfl | rfl | rfl | rfl | rfl | rfl | rfl | rfl <;> rfl) (Nat.le_of_ble_eq_true rfl) (Nat.le_of_ble_eq_true rfl) dL_law_0 (fun h0 H hP hD hS => ?_)
  have hP : va_P D vwCl [(h0, .inr (6, [.null, .null, .null, .null, .null, .null, .int 0, .int 0, .int 0]))] H := hP
  have hD : va_D (fun q : Nat => s.heap.size ≤ q) [(h0, .inr (6, [.null, .null, .null, .null, .null, .null, .int 0, .int 0, .int 0]))] := hD
  refine lv_dup hx hb dL_law_3 rfl ?_
  have hFc := va_free (wc := [(h0, .inr (6, [.null, .null, .null, .null, .null, .null, .int 0, .int 0, .int 0]))]) hD hS hA [0] rfl
  refine va_callv (va_runI (As := []) C (ct_PlanCabinet l D h0 H.size) (cwI 0 hts gL_law_X6_init rfl rfl rfl (hts0 (.initialized RX6) (List.mem_of_getElem? (i := 65) (by decide +kernel))) (hts0 (.methodLink RL 9 yX6_init) (List.mem_of_getElem? (i := 78) (by decide +kernel))) (hts0 (.instanceMethod yX6_init) (List.mem_of_getElem? (i := 79) (by decide +kernel))) rfl (by decide +kernel) ⟨Nat.le_of_ble_eq_true rfl, Nat.le_of_ble_eq_true rfl⟩) ⟨fun a U g mk q => ⟨q.1, q.2.1, q.2.2.1, va_K.moved (u := U) (U := U.calling g mk a) (Vm.Alike.refl U.vm) q.2.2.2.1, q.2.2.2.2.1, va_AO.moved (u := U) (U := U.calling g mk a) (Vm.Alike.refl U.vm) q.2.2.2.2.2.1, va_Nw.same (u := U) (U := U.calling g mk a) rfl rfl q.2.2.2.2.2.2⟩, fun U hU hW => ⟨rfl, by rw [hU], by rw [hU]; exact hP, va_K.moved hW.alike hK, hD.weaken (fun _ _ _ _ => trivial), va_AO.moved hW.alike hao, va_Nw.warmM hW hnw⟩⟩ rfl rfl hl.1 rfl (lv_room (Nat.le_of_ble_eq_true rfl)) dL_law_4 ⟨Nat.le_of_ble_eq_true rfl, Nat.le_of_ble_eq_true rfl⟩) hS (fun q _ h => hFc q h) hFc (fun u1 t H1 locs ht hvm _ hB hz1 hk1 hS => ?_)
  obtain ⟨e699, hP1, hK1, hD1⟩ := hB
  rw [ht] at hP1
  have hKC := va_K.moved hvm.symm hK1
  have hDD : va_D (fun q : Nat => s.heap.size ≤ q) (cellsC u1.1 u1.2 (gh0 u1.1 u1.2) cS0) := hD1.weaken (fun _ q _ h => hFc q.1 h)
  subst e699
  generalize H1 = H at hP1 hS ⊢
  refine lv_astore_n (lv' := [(1, .ref (u1.2 699)), (0, .ref b)]) hx hb dL_law_7 rfl hl (by decide) rfl (fun ls hl => ?_)
  refine va_new (ci := 7) (fs := [.int 0, .int 0, .int 0, .int 0, .null, .null, .null, .null, .null, .null, .null, .int 0, .null, .null, .long 0, .long 0, .null, .null, .null, .null, .null, .null, .int 0, .null, .null, .null, .int 0, .null, .null, .null, .null, .null, .null, .null, .null, .null, .int 0, .int 0, .int 0, .null]) (C := RX7) (T := TX7) (N := 40) hx hb hts0 wsX70_in tyX7 tyX7_ok hown (hts0 (.classLink RL 10 RX7) (List.mem_of_getElem? (i := 811) (by decide +kernel))) (hts0 (.instantiable RX7 40) (List.mem_of_getElem? (i := 812) (by decide +kernel))) (hts0 (.initialized RX7) (List.mem_of_getElem? (i := 71) (by decide +kernel))) hK hP1 hDD hS hA rfl (fun j hj => by rcases (show j = 0 ∨ j = 1 ∨ j = 2 ∨ j = 3 ∨ j = 4 ∨ j = 5 ∨ j = 6 ∨ j = 7 ∨ j = 8 ∨ j = 9 ∨ j = 10 ∨ j = 11 ∨ j = 12 ∨ j = 13 ∨ j = 14 ∨ j = 15 ∨ j = 16 ∨ j = 17 ∨ j = 18 ∨ j = 19 ∨ j = 20 ∨ j = 21 ∨ j = 22 ∨ j = 23 ∨ j = 24 ∨ j = 25 ∨ j = 26 ∨ j = 27 ∨ j = 28 ∨ j = 29 ∨ j = 30 ∨ j = 31 ∨ j = 32 ∨ j = 33 ∨ j = 34 ∨ j = 35 ∨ j = 36 ∨ j = 37 ∨ j = 38 ∨ j = 39 by omega) with rfl | rfl | rfl | rfl | rfl | rfl | rfl | rfl | rfl | rfl | rfl | rfl | rfl | rfl | rfl | rfl | rfl | rfl | rfl | rfl | rfl | rfl | rfl | rfl | rfl | rfl | rfl | rfl | rfl | rfl | rfl | rfl | rfl | rfl | rfl | rfl | rfl | rfl | rfl | rfl <;> rfl) (Nat.le_of_ble_eq_true rfl) (Nat.le_of_ble_eq_true rfl) dL_law_8 (fun h1 H hP hD hS => ?_)
  refine lv_dup hx hb dL_law_11 rfl ?_
  have hPc := va_P_right hP
  have hDc := va_D_right hD
  have hFc : ∀ q, va_A [(h1, .inr (7, [.int 0, .int 0, .int 0, .int 0, .null, .null, .null, .null, .null, .null, .null, .int 0, .null, .null, .long 0, .long 0, .null, .null, .null, .null, .null, .null, .int 0, .null, .null, .null, .int 0, .null, .null, .null, .null, .null, .null, .null, .null, .null, .int 0, .int 0, .int 0, .null]))] H.size q → s.heap.size ≤ q := by
    intro q h
    rcases h with ⟨k, e0, h⟩ | h
    · exact hDc.2 k _ h
    · exact Nat.le_trans hS.1 h
  refine va_callv (va_runI (As := []) C (ct_PlanCabinetModel l D h1 H.size) (cwI 0 hts gL_law_X7_init rfl rfl rfl (hts0 (.initialized RX7) (List.mem_of_getElem? (i := 71) (by decide +kernel))) (hts0 (.methodLink RL 12 yX7_init) (List.mem_of_getElem? (i := 813) (by decide +kernel))) (hts0 (.instanceMethod yX7_init) (List.mem_of_getElem? (i := 814) (by decide +kernel))) rfl (by decide +kernel) ⟨Nat.le_of_ble_eq_true rfl, Nat.le_of_ble_eq_true rfl⟩) ⟨fun a U g mk q => ⟨q.1, q.2.1, q.2.2.1, va_K.moved (u := U) (U := U.calling g mk a) (Vm.Alike.refl U.vm) q.2.2.2.1, q.2.2.2.2⟩, fun U hU hW => ⟨rfl, by rw [hU], by rw [hU]; exact hPc, va_K.moved hW.alike hK, hDc.weaken (fun _ _ _ _ => trivial)⟩⟩ rfl rfl hl.1 rfl (lv_room (Nat.le_of_ble_eq_true rfl)) dL_law_12 ⟨Nat.le_of_ble_eq_true rfl, Nat.le_of_ble_eq_true rfl⟩) hS (fun q _ h => hFc q h) hFc (fun u2 t H1 locs ht hvm _ hB hz1 hk1 hS => ?_)
  obtain ⟨hP2, hK2, hD2⟩ := hB
  rw [ht] at hP2
  have hKM := va_K.moved hvm.symm hK2
  have hPm : va_P D vwCl (cellsM u2.1 (va_up u2.2 40 h1) mS0) H1 := hP2
  have hDm : va_D (va_A [(h1, .inr (7, [.int 0, .int 0, .int 0, .int 0, .null, .null, .null, .null, .null, .null, .null, .int 0, .null, .null, .long 0, .long 0, .null, .null, .null, .null, .null, .null, .int 0, .null, .null, .null, .int 0, .null, .null, .null, .null, .null, .null, .null, .null, .null, .int 0, .int 0, .int 0, .null]))] H.size) (cellsM u2.1 (va_up u2.2 40 h1) mS0) := hD2
  have hKm : va_K D vwCl (tysM u2.1) s := hKM
  have hlt : ∀ a ∈ adC u1.2 (gh0 u1.1 u1.2), a < H.size ∧ a ≠ h1 := by
    intro a ha
    rw [← adC_eq u1.1 u1.2 (gh0 u1.1 u1.2) cS0] at ha
    obtain ⟨q, hq, eq⟩ := List.mem_map.mp ha
    obtain ⟨k, hk⟩ := List.getElem?_of_mem hq
    refine ⟨by rw [← eq]; exact (va_P_left hP k q hk).lt, fun e1 => ?_⟩
    exact va_D_apart hD (a := h1) (List.mem_map.mpr ⟨_, List.mem_cons_self, rfl⟩) (by rw [← e1]; exact List.mem_map.mpr ⟨q, hq, eq⟩)
  have hnA : ∀ a ∈ adC u1.2 (gh0 u1.1 u1.2), ¬ va_A [(h1, .inr (7, [.int 0, .int 0, .int 0, .int 0, .null, .null, .null, .null, .null, .null, .null, .int 0, .null, .null, .long 0, .long 0, .null, .null, .null, .null, .null, .null, .int 0, .null, .null, .null, .int 0, .null, .null, .null, .null, .null, .null, .null, .null, .null, .int 0, .int 0, .int 0, .null]))] H.size a := by
    intro a ha h
    rcases h with ⟨k, e0, h⟩ | h
    · cases k with
      | zero => cases h; exact (hlt _ ha).2 rfl
      | succ k => cases h
    · exact absurd (hlt a ha).1 (Nat.not_lt.mpr h)
  have hPC : va_P D vwCl (cellsC u1.1 u1.2 (gh0 u1.1 u1.2) cS0) H1 := (va_P_left hP).kept (fun k q hk => hk1 q.1 ((va_P_left hP k q hk).lt) (hnA q.1 (adC_in hk)))
  have hDM : DM (fun q : Nat => s.heap.size ≤ q) (va_up u2.2 40 h1) := DM.of (hDm.weaken (fun _ q _ h => hFc q.1 h))
  have hap : ∀ a ∈ adM (va_up u2.2 40 h1), a ∉ adC u1.2 (gh0 u1.1 u1.2) := by
    intro a ha hc
    rw [← adM_eq u2.1 (va_up u2.2 40 h1) mS0] at ha
    obtain ⟨q, hq, eq⟩ := List.mem_map.mp ha
    obtain ⟨k, hk⟩ := List.getElem?_of_mem hq
    exact hnA a hc (by rw [← eq]; exact hDm.2 k q hk)
  refine lv_astore_n (lv' := [(2, .ref h1), (1, .ref (u1.2 699)), (0, .ref b)]) hx hb dL_law_15 rfl hl (by decide) rfl (fun ls hl => ?_)
  refine lv_iconst (v := (0 : Int32)) hx hb dL_law_16 (by decide) ?_
  refine lv_istore_n (lv' := [(3, .int (0 : Int32)), (2, .ref h1), (1, .ref (u1.2 699)), (0, .ref b)]) hx hb dL_law_17 rfl hl (by decide) rfl (fun ls hl => ?_)
  refine W.widen (k := 63) (n := 684524) (Nat.le_of_ble_eq_true rfl) (Nat.le_of_ble_eq_true rfl) ?_
  exact law_loop C hr hlocks hX hbl hL (HP xs) 513 0 cS0 mS0 (gh0 u1.1 u1.2) H1 _ 63 684524 ls rfl (Nat.zero_le _) rfl ⟨⟨⟨hPC, hKC, fun _ _ => trivial, hNW⟩, va_D_left hD, hS⟩, hPm, hDM, hKm, hap⟩ ⟨Nat.le_refl _, Nat.le_refl _⟩ (lv_sub hl [3, 2, 1, 0] rfl)
