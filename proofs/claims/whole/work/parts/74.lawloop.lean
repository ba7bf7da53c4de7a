set_option maxRecDepth 100000 in
set_option maxHeartbeats 4000000 in
theorem law_loop {p : Program} {l : Launch} {e : Env} {s : State} {m : MethodId} {below : List Frame} {meth : Method} {c : Code} {b L N : Nat} {xs : Nat → Int32} {D : va_G} {κ κ' : Nat → ClassId} {ρ ρ' : Nat → Nat} (C : CallFix p m c cL_law 4 s #[Value.ref b] wsL_law RL) (hr : meth.sig.returnType = ret) (hlk : meth.locks = false) (hX : va_X b L xs s s.heap) (hbl : b < s.heap.size) (hL : L ≤ 3072) (hpure : ∀ k, k ≤ 512 → ∃ q, lawIter N xs k = some q) : ∀ (n k : Nat) (σ : CSt) (τ : MSt) (g : Gh) (H : Heap) (locs : List Loc) (ce sl : Nat) (ls : Array Slot), k + n = 513 → k ≤ 512 → lawIter N xs k = some (σ, τ) → LW D κ ρ g σ κ' ρ' τ s H locs → ce ≤ 63 + 243 * k ∧ sl ≤ 684524 + 8200 * k → lv_has ls 4 [(0, .ref b), (1, .ref (ρ 699)), (2, .ref (ρ' 40)), (3, .int (nI (6 * k)))] → W p l e room_1 s m #[Value.ref b] below meth c H locs ce sl (lw_Z below #[Value.ref b] s) (F0 m 18 ls []) := by
  obtain ⟨hx, hb, hml, hown, hts⟩ := id C
  intro n
  induction n with
  | zero => intro k σ τ g H locs ce sl ls h1 h2; omega
  | succ n ih =>
    intro k σ τ g H locs ce sl ls hkn hk hit hw hc hl
    refine lv_iload_n hx hb dL_law_18 rfl (lv_at hl 3 rfl) ?_
    refine lv_aload_n hx hb dL_law_19 rfl (lv_at hl 0 rfl) ?_
    refine va_slen (A := fun q : Nat => s.heap.size ≤ q) hx hb hX hbl (Nat.not_le.mpr hbl) hw.1.2.2 dL_law_20 ?_
    refine lv_bipush (v := (6 : Int32)) hx hb dL_law_21 (by decide) ?_
    refine lv_isub hx hb dL_law_23 ?_
    have hsub : (Int32.ofNat L - (6 : Int32)).toInt = (L : Int) - 6 := pk_sub_toInt (a := L) (b := 6) (by omega) (by omega)
    refine lv_icmp_gt (tgt := 797) hx hb dL_law_24 (by decide) (fun cc => ?_) (fun cc => ?_)
    · refine va_forget (fun q h => hw.1.2.2.2.2 q h) ?_
      refine lv_iconst (v := (1 : Int32)) hx hb dL_law_797 (by decide) ?_
      refine W.widen (k := 600000) (n := 7302250) (by omega) (by omega) ?_
      exact lw_ret hx hb hr hlk dL_law_798
    · have h6 : 6 * k + 6 ≤ L := by
        rw [Int32.lt_iff_toInt_lt, hsub, nI_toInt (by omega)] at cc
        omega
      obtain ⟨z, hz⟩ := hpure (k + 1) (by omega)
      have hst := hz
      rw [lawIter, hit] at hst
      have h : lawStep N (xs (6 * k)) (xs (6 * k + 1)) (xs (6 * k + 2)) (xs (6 * k + 3)) (xs (6 * k + 4)) (xs (6 * k + 5)) σ τ = some z := hst
      unfold lawStep at h
      have hK : ∀ (g : Gh) (H : Heap) (locs : List Loc) (ce sl : Nat) (ls : Array Slot), LW D κ ρ g z.1 κ' ρ' z.2 s H locs → ce ≤ 63 + 243 * (k + 1) ∧ sl ≤ 684524 + 8200 * (k + 1) → lv_has ls 4 [(0, .ref b), (1, .ref (ρ 699)), (2, .ref (ρ' 40)), (3, .int (nI (6 * k)))] → W p l e room_1 s m #[Value.ref b] below meth c H locs ce sl (lw_Z below #[Value.ref b] s) (F0 m 791 ls []) := by
        intro g H locs ce sl ls hw hc hl
        refine lv_iinc (v := nI (6 * (k + 1))) (lv' := [(3, .int (nI (6 * (k + 1)))), (0, .ref b), (1, .ref (ρ 699)), (2, .ref (ρ' 40))]) hx hb dL_law_791 hl (k := 3) rfl (nI_add (6 * k) 6) (by decide) rfl (fun ls hl => ?_)
        refine lv_goto (tgt := 18) hx hb dL_law_794 (by decide) ?_
        exact ih (k + 1) z.1 z.2 g H locs ce sl ls (by omega) (by omega) hz hw hc (lv_sub hl [1, 2, 3, 0] rfl)
      refine lv_aload_n hx hb dL_law_27 rfl (lv_at hl 0 rfl) ?_
      refine lv_iload_n hx hb dL_law_28 rfl (lv_at hl 3 rfl) ?_
      refine lawLd0 h6 hL hX hbl hw.1.2.2 hx hb dL_law_29 ?_
      refine lv_bipush (v := (31 : Int32)) hx hb dL_law_30 (by decide) ?_
      refine lv_iand hx hb dL_law_32 ?_
      by_cases c_0 : xs (6 * k) &&& 31 = (0 : Int32)
      · have h := zz_pos c_0 h
        refine lv_tableIn (tgt := 140) (off := 107) hx hb dL_law_33 (by rw [c_0]; decide) (by rw [c_0]; decide) (by rw [c_0]; rfl) (by decide) ?_
        exact lw_case_0 C hX hbl hL h6 h hw hl hc hK
      have h := zz_neg c_0 h
      by_cases c_1 : xs (6 * k) &&& 31 = (1 : Int32)
      · have h := zz_pos c_1 h
        refine lv_tableIn (tgt := 153) (off := 120) hx hb dL_law_33 (by rw [c_1]; decide) (by rw [c_1]; decide) (by rw [c_1]; rfl) (by decide) ?_
        exact lw_case_1 C hX hbl hL h6 h hw hl hc hK
      have h := zz_neg c_1 h
      by_cases c_2 : xs (6 * k) &&& 31 = (2 : Int32)
      · have h := zz_pos c_2 h
        refine lv_tableIn (tgt := 206) (off := 173) hx hb dL_law_33 (by rw [c_2]; decide) (by rw [c_2]; decide) (by rw [c_2]; rfl) (by decide) ?_
        exact lw_case_2 C hX hbl hL h6 h hw hl hc hK
      have h := zz_neg c_2 h
      by_cases c_3 : xs (6 * k) &&& 31 = (3 : Int32)
      · have h := zz_pos c_3 h
        refine lv_tableIn (tgt := 269) (off := 236) hx hb dL_law_33 (by rw [c_3]; decide) (by rw [c_3]; decide) (by rw [c_3]; rfl) (by decide) ?_
        exact lw_case_3 C hX hbl hL h6 h hw hl hc hK
      have h := zz_neg c_3 h
      by_cases c_4 : xs (6 * k) &&& 31 = (4 : Int32)
      · have h := zz_pos c_4 h
        refine lv_tableIn (tgt := 302) (off := 269) hx hb dL_law_33 (by rw [c_4]; decide) (by rw [c_4]; decide) (by rw [c_4]; rfl) (by decide) ?_
        exact lw_case_4 C hX hbl hL h6 h hw hl hc hK
      have h := zz_neg c_4 h
      by_cases c_5 : xs (6 * k) &&& 31 = (5 : Int32)
      · have h := zz_pos c_5 h
        refine lv_tableIn (tgt := 315) (off := 282) hx hb dL_law_33 (by rw [c_5]; decide) (by rw [c_5]; decide) (by rw [c_5]; rfl) (by decide) ?_
        exact lw_case_5 C hX hbl hL h6 h hw hl hc hK
      have h := zz_neg c_5 h
      by_cases c_6 : xs (6 * k) &&& 31 = (6 : Int32)
      · have h := zz_pos c_6 h
        refine lv_tableIn (tgt := 338) (off := 305) hx hb dL_law_33 (by rw [c_6]; decide) (by rw [c_6]; decide) (by rw [c_6]; rfl) (by decide) ?_
        exact lw_case_6 C hX hbl hL h6 h hw hl hc hK
      have h := zz_neg c_6 h
      by_cases c_7 : xs (6 * k) &&& 31 = (7 : Int32)
      · have h := zz_pos c_7 h
        refine lv_tableIn (tgt := 381) (off := 348) hx hb dL_law_33 (by rw [c_7]; decide) (by rw [c_7]; decide) (by rw [c_7]; rfl) (by decide) ?_
        exact lw_case_7 C hX hbl hL h6 h hw hl hc hK
      have h := zz_neg c_7 h
      by_cases c_8 : xs (6 * k) &&& 31 = (8 : Int32)
      · have h := zz_pos c_8 h
        refine lv_tableIn (tgt := 414) (off := 381) hx hb dL_law_33 (by rw [c_8]; decide) (by rw [c_8]; decide) (by rw [c_8]; rfl) (by decide) ?_
        exact lw_case_8 C hX hbl hL h6 h hw hl hc hK
      have h := zz_neg c_8 h
      by_cases c_9 : xs (6 * k) &&& 31 = (9 : Int32)
      · have h := zz_pos c_9 h
        refine lv_tableIn (tgt := 447) (off := 414) hx hb dL_law_33 (by rw [c_9]; decide) (by rw [c_9]; decide) (by rw [c_9]; rfl) (by decide) ?_
        exact lw_case_9 C hX hbl hL h6 h hw hl hc hK
      have h := zz_neg c_9 h
      by_cases c_10 : xs (6 * k) &&& 31 = (10 : Int32)
      · have h := zz_pos c_10 h
        refine lv_tableIn (tgt := 481) (off := 448) hx hb dL_law_33 (by rw [c_10]; decide) (by rw [c_10]; decide) (by rw [c_10]; rfl) (by decide) ?_
        exact lw_case_10 C hX hbl hL h6 h hw hl hc hK
      have h := zz_neg c_10 h
      by_cases c_11 : xs (6 * k) &&& 31 = (11 : Int32)
      · have h := zz_pos c_11 h
        refine lv_tableIn (tgt := 504) (off := 471) hx hb dL_law_33 (by rw [c_11]; decide) (by rw [c_11]; decide) (by rw [c_11]; rfl) (by decide) ?_
        exact lw_case_11 C hX hbl hL h6 h hw hl hc hK
      have h := zz_neg c_11 h
      by_cases c_12 : xs (6 * k) &&& 31 = (12 : Int32)
      · have h := zz_pos c_12 h
        refine lv_tableIn (tgt := 517) (off := 484) hx hb dL_law_33 (by rw [c_12]; decide) (by rw [c_12]; decide) (by rw [c_12]; rfl) (by decide) ?_
        exact lw_case_12 C hX hbl hL h6 h hw hl hc hK
      have h := zz_neg c_12 h
      by_cases c_13 : xs (6 * k) &&& 31 = (13 : Int32)
      · have h := zz_pos c_13 h
        refine lv_tableIn (tgt := 551) (off := 518) hx hb dL_law_33 (by rw [c_13]; decide) (by rw [c_13]; decide) (by rw [c_13]; rfl) (by decide) ?_
        exact lw_case_13 C hX hbl hL h6 h hw hl hc hK
      have h := zz_neg c_13 h
      by_cases c_14 : xs (6 * k) &&& 31 = (14 : Int32)
      · have h := zz_pos c_14 h
        refine lv_tableIn (tgt := 574) (off := 541) hx hb dL_law_33 (by rw [c_14]; decide) (by rw [c_14]; decide) (by rw [c_14]; rfl) (by decide) ?_
        exact lw_case_14 C hX hbl hL h6 h hw hl hc hK
      have h := zz_neg c_14 h
      by_cases c_15 : xs (6 * k) &&& 31 = (15 : Int32)
      · have h := zz_pos c_15 h
        refine lv_tableIn (tgt := 617) (off := 584) hx hb dL_law_33 (by rw [c_15]; decide) (by rw [c_15]; decide) (by rw [c_15]; rfl) (by decide) ?_
        exact lw_case_15 C hX hbl hL h6 h hw hl hc hK
      have h := zz_neg c_15 h
      by_cases c_16 : xs (6 * k) &&& 31 = (16 : Int32)
      · have h := zz_pos c_16 h
        refine lv_tableIn (tgt := 640) (off := 607) hx hb dL_law_33 (by rw [c_16]; decide) (by rw [c_16]; decide) (by rw [c_16]; rfl) (by decide) ?_
        exact lw_case_16 C hX hbl hL h6 h hw hl hc hK
      have h := zz_neg c_16 h
      by_cases c_17 : xs (6 * k) &&& 31 = (17 : Int32)
      · have h := zz_pos c_17 h
        refine lv_tableIn (tgt := 653) (off := 620) hx hb dL_law_33 (by rw [c_17]; decide) (by rw [c_17]; decide) (by rw [c_17]; rfl) (by decide) ?_
        exact lw_case_17 C hX hbl hL h6 h hw hl hc hK
      have h := zz_neg c_17 h
      by_cases c_18 : xs (6 * k) &&& 31 = (18 : Int32)
      · have h := zz_pos c_18 h
        refine lv_tableIn (tgt := 676) (off := 643) hx hb dL_law_33 (by rw [c_18]; decide) (by rw [c_18]; decide) (by rw [c_18]; rfl) (by decide) ?_
        exact lw_case_18 C hX hbl hL h6 h hw hl hc hK
      have h := zz_neg c_18 h
      by_cases c_19 : xs (6 * k) &&& 31 = (19 : Int32)
      · have h := zz_pos c_19 h
        refine lv_tableIn (tgt := 699) (off := 666) hx hb dL_law_33 (by rw [c_19]; decide) (by rw [c_19]; decide) (by rw [c_19]; rfl) (by decide) ?_
        exact lw_case_19 C hX hbl hL h6 h hw hl hc hK
      have h := zz_neg c_19 h
      by_cases c_20 : xs (6 * k) &&& 31 = (20 : Int32)
      · have h := zz_pos c_20 h
        refine lv_tableIn (tgt := 712) (off := 679) hx hb dL_law_33 (by rw [c_20]; decide) (by rw [c_20]; decide) (by rw [c_20]; rfl) (by decide) ?_
        exact lw_case_20 C hX hbl hL h6 h hw hl hc hK
      have h := zz_neg c_20 h
      by_cases c_21 : xs (6 * k) &&& 31 = (21 : Int32)
      · have h := zz_pos c_21 h
        refine lv_tableIn (tgt := 745) (off := 712) hx hb dL_law_33 (by rw [c_21]; decide) (by rw [c_21]; decide) (by rw [c_21]; rfl) (by decide) ?_
        exact lw_case_21 C hX hbl hL h6 h hw hl hc hK
      have h := zz_neg c_21 h
      by_cases c_22 : xs (6 * k) &&& 31 = (22 : Int32)
      · have h := zz_pos c_22 h
        refine lv_tableIn (tgt := 768) (off := 735) hx hb dL_law_33 (by rw [c_22]; decide) (by rw [c_22]; decide) (by rw [c_22]; rfl) (by decide) ?_
        exact lw_case_22 C hX hbl hL h6 h hw hl hc hK
      have h := zz_neg c_22 h
      refine lv_tableOut (tgt := 791) hx hb dL_law_33 (by have e_0 := sw_ne (n := 0) 0 (by decide) c_0; have e_1 := sw_ne (n := 1) 1 (by decide) c_1; have e_2 := sw_ne (n := 2) 2 (by decide) c_2; have e_3 := sw_ne (n := 3) 3 (by decide) c_3; have e_4 := sw_ne (n := 4) 4 (by decide) c_4; have e_5 := sw_ne (n := 5) 5 (by decide) c_5; have e_6 := sw_ne (n := 6) 6 (by decide) c_6; have e_7 := sw_ne (n := 7) 7 (by decide) c_7; have e_8 := sw_ne (n := 8) 8 (by decide) c_8; have e_9 := sw_ne (n := 9) 9 (by decide) c_9; have e_10 := sw_ne (n := 10) 10 (by decide) c_10; have e_11 := sw_ne (n := 11) 11 (by decide) c_11; have e_12 := sw_ne (n := 12) 12 (by decide) c_12; have e_13 := sw_ne (n := 13) 13 (by decide) c_13; have e_14 := sw_ne (n := 14) 14 (by decide) c_14; have e_15 := sw_ne (n := 15) 15 (by decide) c_15; have e_16 := sw_ne (n := 16) 16 (by decide) c_16; have e_17 := sw_ne (n := 17) 17 (by decide) c_17; have e_18 := sw_ne (n := 18) 18 (by decide) c_18; have e_19 := sw_ne (n := 19) 19 (by decide) c_19; have e_20 := sw_ne (n := 20) 20 (by decide) c_20; have e_21 := sw_ne (n := 21) 21 (by decide) c_21; have e_22 := sw_ne (n := 22) 22 (by decide) c_22; omega) (by decide) ?_
      have h := some_of h
      subst h
      exact hK g H locs ce sl ls hw (by omega) hl
