/-! the law's world: the class's cells and the reference's, apart -/
def LW (D : va_G) (κ : Nat → ClassId) (ρ : Nat → Nat) (g : Gh) (σ : CSt) (κ' : Nat → ClassId) (ρ' : Nat → Nat) (τ : MSt) (s : State) (H : Heap) (locs : List Loc) : Prop :=
  WC D κ ρ (fun q : Nat => s.heap.size ≤ q) s.heap g σ s H locs ∧ va_P D vwCl (cellsM κ' ρ' τ) H ∧ DM (fun q : Nat => s.heap.size ≤ q) ρ' ∧ va_K D vwCl (tysM κ') s ∧ ∀ a ∈ adM ρ', a ∉ adC ρ g
theorem adM_lt {D : va_G} {κ : Nat → ClassId} {ρ : Nat → Nat} {τ : MSt} {H : Heap} (h : va_P D vwCl (cellsM κ ρ τ) H) {a : Nat} (ha : a ∈ adM ρ) : a < H.size := by
  rw [← adM_eq κ ρ τ] at ha
  obtain ⟨q, hq, e⟩ := List.mem_map.mp ha
  obtain ⟨k, hk⟩ := List.getElem?_of_mem hq
  rw [← e]
  exact (h k q hk).lt
theorem adM_in {κ : Nat → ClassId} {ρ : Nat → Nat} {τ : MSt} {k : Nat} {q : Nat × va_E} (h : (cellsM κ ρ τ)[k]? = some q) : q.1 ∈ adM ρ := by
  rw [← adM_eq κ ρ τ]
  exact List.mem_map.mpr ⟨q, List.mem_of_getElem? h, rfl⟩
theorem adC_in {κ : Nat → ClassId} {ρ : Nat → Nat} {g : Gh} {σ : CSt} {k : Nat} {q : Nat × va_E} (h : (cellsC κ ρ g σ)[k]? = some q) : q.1 ∈ adC ρ g := by
  rw [← adC_eq κ ρ g σ]
  exact List.mem_map.mpr ⟨q, List.mem_of_getElem? h, rfl⟩
section LB
variable {p : Program} {l : Launch} {e : Env} {R : Room} {s : State} {m : MethodId} {args : Array Value} {below : List Frame} {meth : Method} {c : Code} {H : Heap} {locs : List Loc} {cells slots : Nat} {Q : State → Prop}
variable {cc : ByteArray} {pc : Nat} {ls : Array Slot} {rest st0 : List Value} {D : va_G} {κ κ' : Nat → ClassId} {ρ ρ' : Nat → Nat} {g : Gh} {σ : CSt} {τ : MSt} {a : Array Value}
theorem lawC {mc ms : Nat} {v : Option Value} {σ' : CSt} (hr : va_Run p l e R s m args below meth c H locs cells slots mc ms (F0 m pc ls st0) rest (QC D κ ρ H.size g σ' v a) (AC ρ g H.size)) (hw : LW D κ ρ g σ κ' ρ' τ s H locs)
    (kk : ∀ (g' : Gh) (H1 : Heap) (locs1 : List Loc), LW D κ ρ g' σ' κ' ρ' τ s H1 locs1 → W p l e R s m args below meth c H1 locs1 (cells + mc) (slots + ms) Q (F0 m (pc + 3) ls (v.toList ++ rest))) : W p l e R s m args below meth c H locs cells slots Q (F0 m pc ls st0) := by
  obtain ⟨hw, hM, hDM, hKM, hap⟩ := hw
  have hF : ∀ q, AC ρ g H.size q → s.heap.size ≤ q := fun q h => h.elim (fun h => AC_in hw.2.1 h) (fun h => Nat.le_trans hw.2.2.1 h)
  intro T hT X
  obtain ⟨w, st₀, t, T', L, h0, X', hL, e1, e2, ⟨hv, g', hs, hR, hD, hz, hk⟩, st⟩ := hr T hT X
  cases hv
  rw [h0] at hz hk
  have hW : t.vm.Alike s.vm := by rw [← e2]; exact X'.warmed.alike.symm
  obtain ⟨t2, a1, b1⟩ := kk g' T'.heap (locs ++ L) ⟨⟨⟨by rw [e1]; exact hR.1, va_K.moved hW hR.2.1, hR.2.2.1, hw.1.2.2.2⟩, hD.weaken (fun _ _ _ h => hF _ h),
    ⟨Nat.le_trans hw.2.2.1 (by rw [e1]; exact hz), fun q h1 h2 => by rw [e1, hk q (Nat.lt_of_lt_of_le h1 hw.2.2.1) (fun z => h2 (hF q z))]; exact hw.2.2.2.1 q h1 h2, fun q hq => by
      rcases List.mem_append.mp hq with h | h
      · exact hw.2.2.2.2 q h
      · exact hF _ (hL q h)⟩⟩, hM.kept (fun k q hkq => by rw [e1]; exact hk q.1 ((hM k q hkq).lt) (fun z => z.elim (fun z => hap _ (adM_in hkq) z) (fun z => absurd ((hM k q hkq).lt) (Nat.not_lt.mpr z)))), hDM, hKM, fun x hx hxc => (AC_in hD hxc).elim (fun z => hap x hx z) (fun z => absurd (adM_lt hM hx) (Nat.not_lt.mpr z))⟩ T' rfl X'
  exact ⟨t2, st t2 a1, b1⟩
theorem lawM {v : Option Value} {τ' : MSt} (hr : va_Run p l e R s m args below meth c H locs cells slots 0 0 (F0 m pc ls st0) rest (QM D κ' ρ' H.size τ' v a) (AM ρ' H.size)) (hw : LW D κ ρ g σ κ' ρ' τ s H locs)
    (kk : ∀ (H1 : Heap) (locs1 : List Loc), LW D κ ρ g σ κ' ρ' τ' s H1 locs1 → W p l e R s m args below meth c H1 locs1 cells slots Q (F0 m (pc + 3) ls (v.toList ++ rest))) : W p l e R s m args below meth c H locs cells slots Q (F0 m pc ls st0) := by
  obtain ⟨hw, hM, hDM, hKM, hap⟩ := hw
  have hF : ∀ q, AM ρ' H.size q → s.heap.size ≤ q := fun q h => h.elim (fun h => hDM.at h) (fun h => Nat.le_trans hw.2.2.1 h)
  intro T hT X
  obtain ⟨w, st₀, t, T', L, h0, X', hL, e1, e2, ⟨hv, hp, hz, hk⟩, st⟩ := hr T hT X
  cases hv
  rw [h0] at hz hk
  obtain ⟨t2, a1, b1⟩ := kk T'.heap (locs ++ L) ⟨⟨⟨hw.1.1.kept (fun k q hkq => by rw [e1]; exact hk q.1 ((hw.1.1 k q hkq).lt) (fun z => z.elim (fun z => hap _ z (adC_in hkq)) (fun z => absurd ((hw.1.1 k q hkq).lt) (Nat.not_lt.mpr z)))), hw.1.2⟩, hw.2.1,
    ⟨Nat.le_trans hw.2.2.1 (by rw [e1]; exact hz), fun q h1 h2 => by rw [e1, hk q (Nat.lt_of_lt_of_le h1 hw.2.2.1) (fun z => h2 (hF q z))]; exact hw.2.2.2.1 q h1 h2, fun q hq => by
      rcases List.mem_append.mp hq with h | h
      · exact hw.2.2.2.2 q h
      · exact hF _ (hL q h)⟩⟩, by rw [e1]; exact hp, hDM, hKM, hap⟩ T' rfl X'
  exact ⟨t2, st t2 a1, b1⟩
theorem lawLd {b L k j : Nat} {xs : Nat → Int32} {J : Int32} (hJ : nI (6 * k) + J = nI (6 * k + j)) (h6 : 6 * k + 6 ≤ L) (hj : j < 6) (hL : L ≤ 3072) (hX : va_X b L xs s s.heap) (hbl : b < s.heap.size) (hS : va_S (fun q : Nat => s.heap.size ≤ q) s.heap H locs) (hx : p.tables.exec = Jvm.exec) (hb : c.code = cc) (hdg : decode cc pc = .ok (.iaload, 1)) (kk : W p l e R s m args below meth c H locs cells slots Q (F0 m (pc + 1) ls (.int (xs (6 * k + j)) :: rest))) : W p l e R s m args below meth c H locs cells slots Q (F0 m pc ls (.int (nI (6 * k) + J) :: .ref b :: rest)) := by
  rw [hJ]
  refine va_sld (A := fun q : Nat => s.heap.size ≤ q) hx hb hX hbl (Nat.not_le.mpr hbl) hS (vp_in_nI (by omega) (by omega)) hdg ?_
  rw [nI_clamp (by omega)]
  exact kk
theorem lawLd0 {b L k : Nat} {xs : Nat → Int32} (h6 : 6 * k + 6 ≤ L) (hL : L ≤ 3072) (hX : va_X b L xs s s.heap) (hbl : b < s.heap.size) (hS : va_S (fun q : Nat => s.heap.size ≤ q) s.heap H locs) (hx : p.tables.exec = Jvm.exec) (hb : c.code = cc) (hdg : decode cc pc = .ok (.iaload, 1)) (kk : W p l e R s m args below meth c H locs cells slots Q (F0 m (pc + 1) ls (.int (xs (6 * k)) :: rest))) : W p l e R s m args below meth c H locs cells slots Q (F0 m pc ls (.int (nI (6 * k)) :: .ref b :: rest)) := by
  refine va_sld (A := fun q : Nat => s.heap.size ≤ q) hx hb hX hbl (Nat.not_le.mpr hbl) hS (vp_in_nI (by omega) (by omega)) hdg ?_
  rw [nI_clamp (by omega)]
  exact kk
end LB
theorem lawJ1 (k : Nat) : nI (6 * k) + (1 : Int32) = nI (6 * k + 1) := nI_add (6 * k) 1
theorem lawJ2 (k : Nat) : nI (6 * k) + (2 : Int32) = nI (6 * k + 2) := nI_add (6 * k) 2
theorem lawJ3 (k : Nat) : nI (6 * k) + (3 : Int32) = nI (6 * k + 3) := nI_add (6 * k) 3
theorem lawJ4 (k : Nat) : nI (6 * k) + (4 : Int32) = nI (6 * k + 4) := nI_add (6 * k) 4
theorem lawJ5 (k : Nat) : nI (6 * k) + (5 : Int32) = nI (6 * k + 5) := nI_add (6 * k) 5
