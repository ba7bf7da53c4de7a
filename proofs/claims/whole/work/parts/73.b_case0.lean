set_option maxRecDepth 100000 in
set_option maxHeartbeats 4000000 in
theorem lw_case_0 {p : Program} {l : Launch} {e : Env} {s : State} {m : MethodId} {below : List Frame} {meth : Method} {c : Code} {b L N k ce sl : Nat} {xs : Nat → Int32} {D : va_G} {κ κ' : Nat → ClassId} {ρ ρ' : Nat → Nat} {g : Gh} {σ : CSt} {τ : MSt} {H : Heap} {locs : List Loc} {ls : Array Slot} (C : CallFix p m c cL_law 4 s #[Value.ref b] wsL_law RL) (hX : va_X b L xs s s.heap) (hbl : b < s.heap.size) (hL : L ≤ 3072) (h6 : 6 * k + 6 ≤ L) {z : CSt × MSt} (h : law_0 N (xs (6 * k + 1)) (xs (6 * k + 2)) (xs (6 * k + 3)) (xs (6 * k + 4)) (xs (6 * k + 5)) σ τ = some z) (hw : LW D κ ρ g σ κ' ρ' τ s H locs) (hl : lv_has ls 4 [(0, .ref b), (1, .ref (ρ 699)), (2, .ref (ρ' 40)), (3, .int (nI (6 * k)))]) (hc : ce ≤ 63 + 243 * k ∧ sl ≤ 684524 + 8200 * k) (hK : ∀ (g : Gh) (H : Heap) (locs : List Loc) (ce sl : Nat) (ls : Array Slot), LW D κ ρ g z.1 κ' ρ' z.2 s H locs → ce ≤ 63 + 243 * (k + 1) ∧ sl ≤ 684524 + 8200 * (k + 1) → lv_has ls 4 [(0, .ref b), (1, .ref (ρ 699)), (2, .ref (ρ' 40)), (3, .int (nI (6 * k)))] → W p l e room_1 s m #[Value.ref b] below meth c H locs ce sl (lw_Z below #[Value.ref b] s) (F0 m 791 ls [])) : W p l e room_1 s m #[Value.ref b] below meth c H locs ce sl (lw_Z below #[Value.ref b] s) (F0 m 140 ls []) := by
  obtain ⟨hx, hb, hml, hown, hts⟩ := id C
  unfold law_0 at h
  refine lv_aload_n hx hb dL_law_140 rfl (lv_at hl 1 rfl) ?_
  obtain ⟨q, e_q, h⟩ := bnd_of h
  refine lawC (va_runV (As := []) C (cC_table e_q) (cwV 0 hts gL_law_X6_table rfl rfl rfl (by decide +kernel) ⟨Nat.le_of_ble_eq_true rfl, Nat.le_of_ble_eq_true rfl⟩) (preM (recv_699 hw.1.1) hw.1) rfl rfl hl.1 rfl (lv_room (Nat.le_of_ble_eq_true rfl)) dL_law_141 ⟨by show _ ≤ 600000; omega, by show _ ≤ 7302250; omega⟩) hw (fun g H locs hw => ?_)
  refine lv_aload_n hx hb dL_law_144 rfl (lv_at hl 2 rfl) ?_
  obtain ⟨r, e_r, h⟩ := bnd_of h
  refine lawM (va_runV (As := []) C (cM_table e_r) (cwV 0 hts gL_law_X7_table rfl rfl rfl (by decide +kernel) ⟨Nat.le_of_ble_eq_true rfl, Nat.le_of_ble_eq_true rfl⟩) (mPreM hw.2.2.2.1 hw.2.1 hw.2.2.1 _) rfl rfl hl.1 rfl (lv_room (Nat.le_of_ble_eq_true rfl)) dL_law_145 ⟨by show _ ≤ 600000; omega, by show _ ≤ 7302250; omega⟩) hw (fun H locs hw => ?_)
  refine lv_icmp_eq (tgt := 791) hx hb dL_law_148 (by decide) (fun cc => ?_) (fun cc => ?_)
  · have h := zz_pos cc h
    have h := some_of h
    subst h
    exact hK _ _ _ _ _ _ hw (by omega) hl
  · have h := zz_neg cc h
    cases h
set_option maxRecDepth 100000 in
set_option maxHeartbeats 4000000 in
theorem lw_case_1 {p : Program} {l : Launch} {e : Env} {s : State} {m : MethodId} {below : List Frame} {meth : Method} {c : Code} {b L N k ce sl : Nat} {xs : Nat → Int32} {D : va_G} {κ κ' : Nat → ClassId} {ρ ρ' : Nat → Nat} {g : Gh} {σ : CSt} {τ : MSt} {H : Heap} {locs : List Loc} {ls : Array Slot} (C : CallFix p m c cL_law 4 s #[Value.ref b] wsL_law RL) (hX : va_X b L xs s s.heap) (hbl : b < s.heap.size) (hL : L ≤ 3072) (h6 : 6 * k + 6 ≤ L) {z : CSt × MSt} (h : law_1 N (xs (6 * k + 1)) (xs (6 * k + 2)) (xs (6 * k + 3)) (xs (6 * k + 4)) (xs (6 * k + 5)) σ τ = some z) (hw : LW D κ ρ g σ κ' ρ' τ s H locs) (hl : lv_has ls 4 [(0, .ref b), (1, .ref (ρ 699)), (2, .ref (ρ' 40)), (3, .int (nI (6 * k)))]) (hc : ce ≤ 63 + 243 * k ∧ sl ≤ 684524 + 8200 * k) (hK : ∀ (g : Gh) (H : Heap) (locs : List Loc) (ce sl : Nat) (ls : Array Slot), LW D κ ρ g z.1 κ' ρ' z.2 s H locs → ce ≤ 63 + 243 * (k + 1) ∧ sl ≤ 684524 + 8200 * (k + 1) → lv_has ls 4 [(0, .ref b), (1, .ref (ρ 699)), (2, .ref (ρ' 40)), (3, .int (nI (6 * k)))] → W p l e room_1 s m #[Value.ref b] below meth c H locs ce sl (lw_Z below #[Value.ref b] s) (F0 m 791 ls [])) : W p l e room_1 s m #[Value.ref b] below meth c H locs ce sl (lw_Z below #[Value.ref b] s) (F0 m 153 ls []) := by
  obtain ⟨hx, hb, hml, hown, hts⟩ := id C
  unfold law_1 at h
  refine lv_aload_n hx hb dL_law_153 rfl (lv_at hl 1 rfl) ?_
  refine lv_aload_n hx hb dL_law_154 rfl (lv_at hl 0 rfl) ?_
  refine lv_iload_n hx hb dL_law_155 rfl (lv_at hl 3 rfl) ?_
  refine lv_iconst (v := (1 : Int32)) hx hb dL_law_156 (by decide) ?_
  refine lv_iadd hx hb dL_law_157 ?_
  refine lawLd (j := 1) (lawJ1 k) h6 (by decide) hL hX hbl hw.1.2.2 hx hb dL_law_158 ?_
  refine lv_aload_n hx hb dL_law_159 rfl (lv_at hl 0 rfl) ?_
  refine lv_iload_n hx hb dL_law_160 rfl (lv_at hl 3 rfl) ?_
  refine lv_iconst (v := (2 : Int32)) hx hb dL_law_161 (by decide) ?_
  refine lv_iadd hx hb dL_law_162 ?_
  refine lawLd (j := 2) (lawJ2 k) h6 (by decide) hL hX hbl hw.1.2.2 hx hb dL_law_163 ?_
  refine lv_aload_n hx hb dL_law_164 rfl (lv_at hl 0 rfl) ?_
  refine lv_iload_n hx hb dL_law_165 rfl (lv_at hl 3 rfl) ?_
  refine lv_iconst (v := (3 : Int32)) hx hb dL_law_166 (by decide) ?_
  refine lv_iadd hx hb dL_law_167 ?_
  refine lawLd (j := 3) (lawJ3 k) h6 (by decide) hL hX hbl hw.1.2.2 hx hb dL_law_168 ?_
  refine lv_aload_n hx hb dL_law_169 rfl (lv_at hl 0 rfl) ?_
  refine lv_iload_n hx hb dL_law_170 rfl (lv_at hl 3 rfl) ?_
  refine lv_iconst (v := (4 : Int32)) hx hb dL_law_171 (by decide) ?_
  refine lv_iadd hx hb dL_law_172 ?_
  refine lawLd (j := 4) (lawJ4 k) h6 (by decide) hL hX hbl hw.1.2.2 hx hb dL_law_173 ?_
  obtain ⟨q, e_q, h⟩ := bnd_of h
  refine lawC (va_runV (As := [.int (xs (6 * k + 1)), .int (xs (6 * k + 2)), .int (xs (6 * k + 3)), .int (xs (6 * k + 4))]) C (cC_row e_q) (cwV 4 hts gL_law_X6_row rfl rfl rfl (by decide +kernel) ⟨Nat.le_of_ble_eq_true rfl, Nat.le_of_ble_eq_true rfl⟩) (preM (recv_699 hw.1.1) hw.1) rfl rfl hl.1 rfl (lv_room (Nat.le_of_ble_eq_true rfl)) dL_law_174 ⟨by show _ ≤ 600000; omega, by show _ ≤ 7302250; omega⟩) hw (fun g H locs hw => ?_)
  refine lv_aload_n hx hb dL_law_177 rfl (lv_at hl 2 rfl) ?_
  refine lv_aload_n hx hb dL_law_178 rfl (lv_at hl 0 rfl) ?_
  refine lv_iload_n hx hb dL_law_179 rfl (lv_at hl 3 rfl) ?_
  refine lv_iconst (v := (1 : Int32)) hx hb dL_law_180 (by decide) ?_
  refine lv_iadd hx hb dL_law_181 ?_
  refine lawLd (j := 1) (lawJ1 k) h6 (by decide) hL hX hbl hw.1.2.2 hx hb dL_law_182 ?_
  refine lv_aload_n hx hb dL_law_183 rfl (lv_at hl 0 rfl) ?_
  refine lv_iload_n hx hb dL_law_184 rfl (lv_at hl 3 rfl) ?_
  refine lv_iconst (v := (2 : Int32)) hx hb dL_law_185 (by decide) ?_
  refine lv_iadd hx hb dL_law_186 ?_
  refine lawLd (j := 2) (lawJ2 k) h6 (by decide) hL hX hbl hw.1.2.2 hx hb dL_law_187 ?_
  refine lv_aload_n hx hb dL_law_188 rfl (lv_at hl 0 rfl) ?_
  refine lv_iload_n hx hb dL_law_189 rfl (lv_at hl 3 rfl) ?_
  refine lv_iconst (v := (3 : Int32)) hx hb dL_law_190 (by decide) ?_
  refine lv_iadd hx hb dL_law_191 ?_
  refine lawLd (j := 3) (lawJ3 k) h6 (by decide) hL hX hbl hw.1.2.2 hx hb dL_law_192 ?_
  refine lv_aload_n hx hb dL_law_193 rfl (lv_at hl 0 rfl) ?_
  refine lv_iload_n hx hb dL_law_194 rfl (lv_at hl 3 rfl) ?_
  refine lv_iconst (v := (4 : Int32)) hx hb dL_law_195 (by decide) ?_
  refine lv_iadd hx hb dL_law_196 ?_
  refine lawLd (j := 4) (lawJ4 k) h6 (by decide) hL hX hbl hw.1.2.2 hx hb dL_law_197 ?_
  obtain ⟨r, e_r, h⟩ := bnd_of h
  refine lawM (va_runV (As := [.int (xs (6 * k + 1)), .int (xs (6 * k + 2)), .int (xs (6 * k + 3)), .int (xs (6 * k + 4))]) C (cM_row e_r) (cwV 4 hts gL_law_X7_row rfl rfl rfl (by decide +kernel) ⟨Nat.le_of_ble_eq_true rfl, Nat.le_of_ble_eq_true rfl⟩) (mPreM hw.2.2.2.1 hw.2.1 hw.2.2.1 _) rfl rfl hl.1 rfl (lv_room (Nat.le_of_ble_eq_true rfl)) dL_law_198 ⟨by show _ ≤ 600000; omega, by show _ ≤ 7302250; omega⟩) hw (fun H locs hw => ?_)
  refine lv_icmp_eq (tgt := 791) hx hb dL_law_201 (by decide) (fun cc => ?_) (fun cc => ?_)
  · have h := zz_pos cc h
    have h := some_of h
    subst h
    exact hK _ _ _ _ _ _ hw (by omega) hl
  · have h := zz_neg cc h
    cases h
set_option maxRecDepth 100000 in
set_option maxHeartbeats 4000000 in
theorem lw_case_2 {p : Program} {l : Launch} {e : Env} {s : State} {m : MethodId} {below : List Frame} {meth : Method} {c : Code} {b L N k ce sl : Nat} {xs : Nat → Int32} {D : va_G} {κ κ' : Nat → ClassId} {ρ ρ' : Nat → Nat} {g : Gh} {σ : CSt} {τ : MSt} {H : Heap} {locs : List Loc} {ls : Array Slot} (C : CallFix p m c cL_law 4 s #[Value.ref b] wsL_law RL) (hX : va_X b L xs s s.heap) (hbl : b < s.heap.size) (hL : L ≤ 3072) (h6 : 6 * k + 6 ≤ L) {z : CSt × MSt} (h : law_2 N (xs (6 * k + 1)) (xs (6 * k + 2)) (xs (6 * k + 3)) (xs (6 * k + 4)) (xs (6 * k + 5)) σ τ = some z) (hw : LW D κ ρ g σ κ' ρ' τ s H locs) (hl : lv_has ls 4 [(0, .ref b), (1, .ref (ρ 699)), (2, .ref (ρ' 40)), (3, .int (nI (6 * k)))]) (hc : ce ≤ 63 + 243 * k ∧ sl ≤ 684524 + 8200 * k) (hK : ∀ (g : Gh) (H : Heap) (locs : List Loc) (ce sl : Nat) (ls : Array Slot), LW D κ ρ g z.1 κ' ρ' z.2 s H locs → ce ≤ 63 + 243 * (k + 1) ∧ sl ≤ 684524 + 8200 * (k + 1) → lv_has ls 4 [(0, .ref b), (1, .ref (ρ 699)), (2, .ref (ρ' 40)), (3, .int (nI (6 * k)))] → W p l e room_1 s m #[Value.ref b] below meth c H locs ce sl (lw_Z below #[Value.ref b] s) (F0 m 791 ls [])) : W p l e room_1 s m #[Value.ref b] below meth c H locs ce sl (lw_Z below #[Value.ref b] s) (F0 m 206 ls []) := by
  obtain ⟨hx, hb, hml, hown, hts⟩ := id C
  unfold law_2 at h
  refine lv_aload_n hx hb dL_law_206 rfl (lv_at hl 1 rfl) ?_
  refine lv_aload_n hx hb dL_law_207 rfl (lv_at hl 0 rfl) ?_
  refine lv_iload_n hx hb dL_law_208 rfl (lv_at hl 3 rfl) ?_
  refine lv_iconst (v := (1 : Int32)) hx hb dL_law_209 (by decide) ?_
  refine lv_iadd hx hb dL_law_210 ?_
  refine lawLd (j := 1) (lawJ1 k) h6 (by decide) hL hX hbl hw.1.2.2 hx hb dL_law_211 ?_
  refine lv_aload_n hx hb dL_law_212 rfl (lv_at hl 0 rfl) ?_
  refine lv_iload_n hx hb dL_law_213 rfl (lv_at hl 3 rfl) ?_
  refine lv_iconst (v := (2 : Int32)) hx hb dL_law_214 (by decide) ?_
  refine lv_iadd hx hb dL_law_215 ?_
  refine lawLd (j := 2) (lawJ2 k) h6 (by decide) hL hX hbl hw.1.2.2 hx hb dL_law_216 ?_
  refine lv_aload_n hx hb dL_law_217 rfl (lv_at hl 0 rfl) ?_
  refine lv_iload_n hx hb dL_law_218 rfl (lv_at hl 3 rfl) ?_
  refine lv_iconst (v := (3 : Int32)) hx hb dL_law_219 (by decide) ?_
  refine lv_iadd hx hb dL_law_220 ?_
  refine lawLd (j := 3) (lawJ3 k) h6 (by decide) hL hX hbl hw.1.2.2 hx hb dL_law_221 ?_
  refine lv_aload_n hx hb dL_law_222 rfl (lv_at hl 0 rfl) ?_
  refine lv_iload_n hx hb dL_law_223 rfl (lv_at hl 3 rfl) ?_
  refine lv_iconst (v := (4 : Int32)) hx hb dL_law_224 (by decide) ?_
  refine lv_iadd hx hb dL_law_225 ?_
  refine lawLd (j := 4) (lawJ4 k) h6 (by decide) hL hX hbl hw.1.2.2 hx hb dL_law_226 ?_
  refine lv_aload_n hx hb dL_law_227 rfl (lv_at hl 0 rfl) ?_
  refine lv_iload_n hx hb dL_law_228 rfl (lv_at hl 3 rfl) ?_
  refine lv_iconst (v := (5 : Int32)) hx hb dL_law_229 (by decide) ?_
  refine lv_iadd hx hb dL_law_230 ?_
  refine lawLd (j := 5) (lawJ5 k) h6 (by decide) hL hX hbl hw.1.2.2 hx hb dL_law_231 ?_
  obtain ⟨q, e_q, h⟩ := bnd_of h
  refine lawC (va_runV (As := [.int (xs (6 * k + 1)), .int (xs (6 * k + 2)), .int (xs (6 * k + 3)), .int (xs (6 * k + 4)), .int (xs (6 * k + 5))]) C (cC_pair e_q) (cwV 5 hts gL_law_X6_pair rfl rfl rfl (by decide +kernel) ⟨Nat.le_of_ble_eq_true rfl, Nat.le_of_ble_eq_true rfl⟩) (preM (recv_699 hw.1.1) hw.1) rfl rfl hl.1 rfl (lv_room (Nat.le_of_ble_eq_true rfl)) dL_law_232 ⟨by show _ ≤ 600000; omega, by show _ ≤ 7302250; omega⟩) hw (fun g H locs hw => ?_)
  refine lv_aload_n hx hb dL_law_235 rfl (lv_at hl 2 rfl) ?_
  refine lv_aload_n hx hb dL_law_236 rfl (lv_at hl 0 rfl) ?_
  refine lv_iload_n hx hb dL_law_237 rfl (lv_at hl 3 rfl) ?_
  refine lv_iconst (v := (1 : Int32)) hx hb dL_law_238 (by decide) ?_
  refine lv_iadd hx hb dL_law_239 ?_
  refine lawLd (j := 1) (lawJ1 k) h6 (by decide) hL hX hbl hw.1.2.2 hx hb dL_law_240 ?_
  refine lv_aload_n hx hb dL_law_241 rfl (lv_at hl 0 rfl) ?_
  refine lv_iload_n hx hb dL_law_242 rfl (lv_at hl 3 rfl) ?_
  refine lv_iconst (v := (2 : Int32)) hx hb dL_law_243 (by decide) ?_
  refine lv_iadd hx hb dL_law_244 ?_
  refine lawLd (j := 2) (lawJ2 k) h6 (by decide) hL hX hbl hw.1.2.2 hx hb dL_law_245 ?_
  refine lv_aload_n hx hb dL_law_246 rfl (lv_at hl 0 rfl) ?_
  refine lv_iload_n hx hb dL_law_247 rfl (lv_at hl 3 rfl) ?_
  refine lv_iconst (v := (3 : Int32)) hx hb dL_law_248 (by decide) ?_
  refine lv_iadd hx hb dL_law_249 ?_
  refine lawLd (j := 3) (lawJ3 k) h6 (by decide) hL hX hbl hw.1.2.2 hx hb dL_law_250 ?_
  refine lv_aload_n hx hb dL_law_251 rfl (lv_at hl 0 rfl) ?_
  refine lv_iload_n hx hb dL_law_252 rfl (lv_at hl 3 rfl) ?_
  refine lv_iconst (v := (4 : Int32)) hx hb dL_law_253 (by decide) ?_
  refine lv_iadd hx hb dL_law_254 ?_
  refine lawLd (j := 4) (lawJ4 k) h6 (by decide) hL hX hbl hw.1.2.2 hx hb dL_law_255 ?_
  refine lv_aload_n hx hb dL_law_256 rfl (lv_at hl 0 rfl) ?_
  refine lv_iload_n hx hb dL_law_257 rfl (lv_at hl 3 rfl) ?_
  refine lv_iconst (v := (5 : Int32)) hx hb dL_law_258 (by decide) ?_
  refine lv_iadd hx hb dL_law_259 ?_
  refine lawLd (j := 5) (lawJ5 k) h6 (by decide) hL hX hbl hw.1.2.2 hx hb dL_law_260 ?_
  obtain ⟨r, e_r, h⟩ := bnd_of h
  refine lawM (va_runV (As := [.int (xs (6 * k + 1)), .int (xs (6 * k + 2)), .int (xs (6 * k + 3)), .int (xs (6 * k + 4)), .int (xs (6 * k + 5))]) C (cM_pair e_r) (cwV 5 hts gL_law_X7_pair rfl rfl rfl (by decide +kernel) ⟨Nat.le_of_ble_eq_true rfl, Nat.le_of_ble_eq_true rfl⟩) (mPreM hw.2.2.2.1 hw.2.1 hw.2.2.1 _) rfl rfl hl.1 rfl (lv_room (Nat.le_of_ble_eq_true rfl)) dL_law_261 ⟨by show _ ≤ 600000; omega, by show _ ≤ 7302250; omega⟩) hw (fun H locs hw => ?_)
  refine lv_icmp_eq (tgt := 791) hx hb dL_law_264 (by decide) (fun cc => ?_) (fun cc => ?_)
  · have h := zz_pos cc h
    have h := some_of h
    subst h
    exact hK _ _ _ _ _ _ hw (by omega) hl
  · have h := zz_neg cc h
    cases h
set_option maxRecDepth 100000 in
set_option maxHeartbeats 4000000 in
theorem lw_case_3 {p : Program} {l : Launch} {e : Env} {s : State} {m : MethodId} {below : List Frame} {meth : Method} {c : Code} {b L N k ce sl : Nat} {xs : Nat → Int32} {D : va_G} {κ κ' : Nat → ClassId} {ρ ρ' : Nat → Nat} {g : Gh} {σ : CSt} {τ : MSt} {H : Heap} {locs : List Loc} {ls : Array Slot} (C : CallFix p m c cL_law 4 s #[Value.ref b] wsL_law RL) (hX : va_X b L xs s s.heap) (hbl : b < s.heap.size) (hL : L ≤ 3072) (h6 : 6 * k + 6 ≤ L) {z : CSt × MSt} (h : law_3 N (xs (6 * k + 1)) (xs (6 * k + 2)) (xs (6 * k + 3)) (xs (6 * k + 4)) (xs (6 * k + 5)) σ τ = some z) (hw : LW D κ ρ g σ κ' ρ' τ s H locs) (hl : lv_has ls 4 [(0, .ref b), (1, .ref (ρ 699)), (2, .ref (ρ' 40)), (3, .int (nI (6 * k)))]) (hc : ce ≤ 63 + 243 * k ∧ sl ≤ 684524 + 8200 * k) (hK : ∀ (g : Gh) (H : Heap) (locs : List Loc) (ce sl : Nat) (ls : Array Slot), LW D κ ρ g z.1 κ' ρ' z.2 s H locs → ce ≤ 63 + 243 * (k + 1) ∧ sl ≤ 684524 + 8200 * (k + 1) → lv_has ls 4 [(0, .ref b), (1, .ref (ρ 699)), (2, .ref (ρ' 40)), (3, .int (nI (6 * k)))] → W p l e room_1 s m #[Value.ref b] below meth c H locs ce sl (lw_Z below #[Value.ref b] s) (F0 m 791 ls [])) : W p l e room_1 s m #[Value.ref b] below meth c H locs ce sl (lw_Z below #[Value.ref b] s) (F0 m 269 ls []) := by
  obtain ⟨hx, hb, hml, hown, hts⟩ := id C
  unfold law_3 at h
  refine lv_aload_n hx hb dL_law_269 rfl (lv_at hl 1 rfl) ?_
  refine lv_aload_n hx hb dL_law_270 rfl (lv_at hl 0 rfl) ?_
  refine lv_iload_n hx hb dL_law_271 rfl (lv_at hl 3 rfl) ?_
  refine lv_iconst (v := (1 : Int32)) hx hb dL_law_272 (by decide) ?_
  refine lv_iadd hx hb dL_law_273 ?_
  refine lawLd (j := 1) (lawJ1 k) h6 (by decide) hL hX hbl hw.1.2.2 hx hb dL_law_274 ?_
  refine lv_aload_n hx hb dL_law_275 rfl (lv_at hl 0 rfl) ?_
  refine lv_iload_n hx hb dL_law_276 rfl (lv_at hl 3 rfl) ?_
  refine lv_iconst (v := (2 : Int32)) hx hb dL_law_277 (by decide) ?_
  refine lv_iadd hx hb dL_law_278 ?_
  refine lawLd (j := 2) (lawJ2 k) h6 (by decide) hL hX hbl hw.1.2.2 hx hb dL_law_279 ?_
  obtain ⟨q, e_q, h⟩ := bnd_of h
  refine lawC (va_runV (As := [.int (xs (6 * k + 1)), .int (xs (6 * k + 2))]) C (cC_order e_q) (cwV 2 hts gL_law_X6_order rfl rfl rfl (by decide +kernel) ⟨Nat.le_of_ble_eq_true rfl, Nat.le_of_ble_eq_true rfl⟩) (preM (recv_699 hw.1.1) hw.1) rfl rfl hl.1 rfl (lv_room (Nat.le_of_ble_eq_true rfl)) dL_law_280 ⟨by show _ ≤ 600000; omega, by show _ ≤ 7302250; omega⟩) hw (fun g H locs hw => ?_)
  refine lv_aload_n hx hb dL_law_283 rfl (lv_at hl 2 rfl) ?_
  refine lv_aload_n hx hb dL_law_284 rfl (lv_at hl 0 rfl) ?_
  refine lv_iload_n hx hb dL_law_285 rfl (lv_at hl 3 rfl) ?_
  refine lv_iconst (v := (1 : Int32)) hx hb dL_law_286 (by decide) ?_
  refine lv_iadd hx hb dL_law_287 ?_
  refine lawLd (j := 1) (lawJ1 k) h6 (by decide) hL hX hbl hw.1.2.2 hx hb dL_law_288 ?_
  refine lv_aload_n hx hb dL_law_289 rfl (lv_at hl 0 rfl) ?_
  refine lv_iload_n hx hb dL_law_290 rfl (lv_at hl 3 rfl) ?_
  refine lv_iconst (v := (2 : Int32)) hx hb dL_law_291 (by decide) ?_
  refine lv_iadd hx hb dL_law_292 ?_
  refine lawLd (j := 2) (lawJ2 k) h6 (by decide) hL hX hbl hw.1.2.2 hx hb dL_law_293 ?_
  obtain ⟨r, e_r, h⟩ := bnd_of h
  refine lawM (va_runV (As := [.int (xs (6 * k + 1)), .int (xs (6 * k + 2))]) C (cM_order e_r) (cwV 2 hts gL_law_X7_order rfl rfl rfl (by decide +kernel) ⟨Nat.le_of_ble_eq_true rfl, Nat.le_of_ble_eq_true rfl⟩) (mPreM hw.2.2.2.1 hw.2.1 hw.2.2.1 _) rfl rfl hl.1 rfl (lv_room (Nat.le_of_ble_eq_true rfl)) dL_law_294 ⟨by show _ ≤ 600000; omega, by show _ ≤ 7302250; omega⟩) hw (fun H locs hw => ?_)
  refine lv_icmp_eq (tgt := 791) hx hb dL_law_297 (by decide) (fun cc => ?_) (fun cc => ?_)
  · have h := zz_pos cc h
    have h := some_of h
    subst h
    exact hK _ _ _ _ _ _ hw (by omega) hl
  · have h := zz_neg cc h
    cases h
set_option maxRecDepth 100000 in
set_option maxHeartbeats 4000000 in
theorem lw_case_4 {p : Program} {l : Launch} {e : Env} {s : State} {m : MethodId} {below : List Frame} {meth : Method} {c : Code} {b L N k ce sl : Nat} {xs : Nat → Int32} {D : va_G} {κ κ' : Nat → ClassId} {ρ ρ' : Nat → Nat} {g : Gh} {σ : CSt} {τ : MSt} {H : Heap} {locs : List Loc} {ls : Array Slot} (C : CallFix p m c cL_law 4 s #[Value.ref b] wsL_law RL) (hX : va_X b L xs s s.heap) (hbl : b < s.heap.size) (hL : L ≤ 3072) (h6 : 6 * k + 6 ≤ L) {z : CSt × MSt} (h : law_4 N (xs (6 * k + 1)) (xs (6 * k + 2)) (xs (6 * k + 3)) (xs (6 * k + 4)) (xs (6 * k + 5)) σ τ = some z) (hw : LW D κ ρ g σ κ' ρ' τ s H locs) (hl : lv_has ls 4 [(0, .ref b), (1, .ref (ρ 699)), (2, .ref (ρ' 40)), (3, .int (nI (6 * k)))]) (hc : ce ≤ 63 + 243 * k ∧ sl ≤ 684524 + 8200 * k) (hK : ∀ (g : Gh) (H : Heap) (locs : List Loc) (ce sl : Nat) (ls : Array Slot), LW D κ ρ g z.1 κ' ρ' z.2 s H locs → ce ≤ 63 + 243 * (k + 1) ∧ sl ≤ 684524 + 8200 * (k + 1) → lv_has ls 4 [(0, .ref b), (1, .ref (ρ 699)), (2, .ref (ρ' 40)), (3, .int (nI (6 * k)))] → W p l e room_1 s m #[Value.ref b] below meth c H locs ce sl (lw_Z below #[Value.ref b] s) (F0 m 791 ls [])) : W p l e room_1 s m #[Value.ref b] below meth c H locs ce sl (lw_Z below #[Value.ref b] s) (F0 m 302 ls []) := by
  obtain ⟨hx, hb, hml, hown, hts⟩ := id C
  unfold law_4 at h
  refine lv_aload_n hx hb dL_law_302 rfl (lv_at hl 1 rfl) ?_
  obtain ⟨q, e_q, h⟩ := bnd_of h
  refine lawC (va_runV (As := []) C (cC_clear e_q) (cwV 0 hts gL_law_X6_clear rfl rfl rfl (by decide +kernel) ⟨Nat.le_of_ble_eq_true rfl, Nat.le_of_ble_eq_true rfl⟩) (preM (recv_699 hw.1.1) hw.1) rfl rfl hl.1 rfl (lv_room (Nat.le_of_ble_eq_true rfl)) dL_law_303 ⟨by show _ ≤ 600000; omega, by show _ ≤ 7302250; omega⟩) hw (fun g H locs hw => ?_)
  refine lv_aload_n hx hb dL_law_306 rfl (lv_at hl 2 rfl) ?_
  obtain ⟨r, e_r, h⟩ := bnd_of h
  refine lawM (va_runV (As := []) C (cM_clear e_r) (cwV 0 hts gL_law_X7_clear rfl rfl rfl (by decide +kernel) ⟨Nat.le_of_ble_eq_true rfl, Nat.le_of_ble_eq_true rfl⟩) (mPreM hw.2.2.2.1 hw.2.1 hw.2.2.1 _) rfl rfl hl.1 rfl (lv_room (Nat.le_of_ble_eq_true rfl)) dL_law_307 ⟨by show _ ≤ 600000; omega, by show _ ≤ 7302250; omega⟩) hw (fun H locs hw => ?_)
  refine lv_icmp_eq (tgt := 791) hx hb dL_law_310 (by decide) (fun cc => ?_) (fun cc => ?_)
  · have h := zz_pos cc h
    have h := some_of h
    subst h
    exact hK _ _ _ _ _ _ hw (by omega) hl
  · have h := zz_neg cc h
    cases h
set_option maxRecDepth 100000 in
set_option maxHeartbeats 4000000 in
theorem lw_case_5 {p : Program} {l : Launch} {e : Env} {s : State} {m : MethodId} {below : List Frame} {meth : Method} {c : Code} {b L N k ce sl : Nat} {xs : Nat → Int32} {D : va_G} {κ κ' : Nat → ClassId} {ρ ρ' : Nat → Nat} {g : Gh} {σ : CSt} {τ : MSt} {H : Heap} {locs : List Loc} {ls : Array Slot} (C : CallFix p m c cL_law 4 s #[Value.ref b] wsL_law RL) (hX : va_X b L xs s s.heap) (hbl : b < s.heap.size) (hL : L ≤ 3072) (h6 : 6 * k + 6 ≤ L) {z : CSt × MSt} (h : law_5 N (xs (6 * k + 1)) (xs (6 * k + 2)) (xs (6 * k + 3)) (xs (6 * k + 4)) (xs (6 * k + 5)) σ τ = some z) (hw : LW D κ ρ g σ κ' ρ' τ s H locs) (hl : lv_has ls 4 [(0, .ref b), (1, .ref (ρ 699)), (2, .ref (ρ' 40)), (3, .int (nI (6 * k)))]) (hc : ce ≤ 63 + 243 * k ∧ sl ≤ 684524 + 8200 * k) (hK : ∀ (g : Gh) (H : Heap) (locs : List Loc) (ce sl : Nat) (ls : Array Slot), LW D κ ρ g z.1 κ' ρ' z.2 s H locs → ce ≤ 63 + 243 * (k + 1) ∧ sl ≤ 684524 + 8200 * (k + 1) → lv_has ls 4 [(0, .ref b), (1, .ref (ρ 699)), (2, .ref (ρ' 40)), (3, .int (nI (6 * k)))] → W p l e room_1 s m #[Value.ref b] below meth c H locs ce sl (lw_Z below #[Value.ref b] s) (F0 m 791 ls [])) : W p l e room_1 s m #[Value.ref b] below meth c H locs ce sl (lw_Z below #[Value.ref b] s) (F0 m 315 ls []) := by
  obtain ⟨hx, hb, hml, hown, hts⟩ := id C
  unfold law_5 at h
  refine lv_aload_n hx hb dL_law_315 rfl (lv_at hl 1 rfl) ?_
  refine lv_aload_n hx hb dL_law_316 rfl (lv_at hl 0 rfl) ?_
  refine lv_iload_n hx hb dL_law_317 rfl (lv_at hl 3 rfl) ?_
  refine lv_iconst (v := (1 : Int32)) hx hb dL_law_318 (by decide) ?_
  refine lv_iadd hx hb dL_law_319 ?_
  refine lawLd (j := 1) (lawJ1 k) h6 (by decide) hL hX hbl hw.1.2.2 hx hb dL_law_320 ?_
  obtain ⟨q, e_q, h⟩ := bnd_of h
  refine lawC (va_runV (As := [.int (xs (6 * k + 1))]) C (cC_read e_q) (cwV 1 hts gL_law_X6_read rfl rfl rfl (by decide +kernel) ⟨Nat.le_of_ble_eq_true rfl, Nat.le_of_ble_eq_true rfl⟩) (preM (recv_699 hw.1.1) hw.1) rfl rfl hl.1 rfl (lv_room (Nat.le_of_ble_eq_true rfl)) dL_law_321 ⟨by show _ ≤ 600000; omega, by show _ ≤ 7302250; omega⟩) hw (fun g H locs hw => ?_)
  obtain ⟨ce, ec⟩ : ∃ x, x = ce + 1 := ⟨_, rfl⟩
  obtain ⟨sl, es⟩ : ∃ x, x = sl + 5 := ⟨_, rfl⟩
  rw [← ec, ← es]
  refine lv_aload_n hx hb dL_law_324 rfl (lv_at hl 2 rfl) ?_
  refine lv_aload_n hx hb dL_law_325 rfl (lv_at hl 0 rfl) ?_
  refine lv_iload_n hx hb dL_law_326 rfl (lv_at hl 3 rfl) ?_
  refine lv_iconst (v := (1 : Int32)) hx hb dL_law_327 (by decide) ?_
  refine lv_iadd hx hb dL_law_328 ?_
  refine lawLd (j := 1) (lawJ1 k) h6 (by decide) hL hX hbl hw.1.2.2 hx hb dL_law_329 ?_
  obtain ⟨r, e_r, h⟩ := bnd_of h
  refine lawM (va_runV (As := [.int (xs (6 * k + 1))]) C (cM_read e_r) (cwV 1 hts gL_law_X7_read rfl rfl rfl (by decide +kernel) ⟨Nat.le_of_ble_eq_true rfl, Nat.le_of_ble_eq_true rfl⟩) (mPreM hw.2.2.2.1 hw.2.1 hw.2.2.1 _) rfl rfl hl.1 rfl (lv_room (Nat.le_of_ble_eq_true rfl)) dL_law_330 ⟨by show _ ≤ 600000; omega, by show _ ≤ 7302250; omega⟩) hw (fun H locs hw => ?_)
  refine lv_icmp_eq (tgt := 791) hx hb dL_law_333 (by decide) (fun cc => ?_) (fun cc => ?_)
  · have h := zz_pos cc h
    have h := some_of h
    subst h
    exact hK _ _ _ _ _ _ hw (by omega) hl
  · have h := zz_neg cc h
    cases h
set_option maxRecDepth 100000 in
set_option maxHeartbeats 4000000 in
theorem lw_case_6 {p : Program} {l : Launch} {e : Env} {s : State} {m : MethodId} {below : List Frame} {meth : Method} {c : Code} {b L N k ce sl : Nat} {xs : Nat → Int32} {D : va_G} {κ κ' : Nat → ClassId} {ρ ρ' : Nat → Nat} {g : Gh} {σ : CSt} {τ : MSt} {H : Heap} {locs : List Loc} {ls : Array Slot} (C : CallFix p m c cL_law 4 s #[Value.ref b] wsL_law RL) (hX : va_X b L xs s s.heap) (hbl : b < s.heap.size) (hL : L ≤ 3072) (h6 : 6 * k + 6 ≤ L) {z : CSt × MSt} (h : law_6 N (xs (6 * k + 1)) (xs (6 * k + 2)) (xs (6 * k + 3)) (xs (6 * k + 4)) (xs (6 * k + 5)) σ τ = some z) (hw : LW D κ ρ g σ κ' ρ' τ s H locs) (hl : lv_has ls 4 [(0, .ref b), (1, .ref (ρ 699)), (2, .ref (ρ' 40)), (3, .int (nI (6 * k)))]) (hc : ce ≤ 63 + 243 * k ∧ sl ≤ 684524 + 8200 * k) (hK : ∀ (g : Gh) (H : Heap) (locs : List Loc) (ce sl : Nat) (ls : Array Slot), LW D κ ρ g z.1 κ' ρ' z.2 s H locs → ce ≤ 63 + 243 * (k + 1) ∧ sl ≤ 684524 + 8200 * (k + 1) → lv_has ls 4 [(0, .ref b), (1, .ref (ρ 699)), (2, .ref (ρ' 40)), (3, .int (nI (6 * k)))] → W p l e room_1 s m #[Value.ref b] below meth c H locs ce sl (lw_Z below #[Value.ref b] s) (F0 m 791 ls [])) : W p l e room_1 s m #[Value.ref b] below meth c H locs ce sl (lw_Z below #[Value.ref b] s) (F0 m 338 ls []) := by
  obtain ⟨hx, hb, hml, hown, hts⟩ := id C
  unfold law_6 at h
  refine lv_aload_n hx hb dL_law_338 rfl (lv_at hl 1 rfl) ?_
  refine lv_aload_n hx hb dL_law_339 rfl (lv_at hl 0 rfl) ?_
  refine lv_iload_n hx hb dL_law_340 rfl (lv_at hl 3 rfl) ?_
  refine lv_iconst (v := (1 : Int32)) hx hb dL_law_341 (by decide) ?_
  refine lv_iadd hx hb dL_law_342 ?_
  refine lawLd (j := 1) (lawJ1 k) h6 (by decide) hL hX hbl hw.1.2.2 hx hb dL_law_343 ?_
  refine lv_aload_n hx hb dL_law_344 rfl (lv_at hl 0 rfl) ?_
  refine lv_iload_n hx hb dL_law_345 rfl (lv_at hl 3 rfl) ?_
  refine lv_iconst (v := (2 : Int32)) hx hb dL_law_346 (by decide) ?_
  refine lv_iadd hx hb dL_law_347 ?_
  refine lawLd (j := 2) (lawJ2 k) h6 (by decide) hL hX hbl hw.1.2.2 hx hb dL_law_348 ?_
  refine lv_aload_n hx hb dL_law_349 rfl (lv_at hl 0 rfl) ?_
  refine lv_iload_n hx hb dL_law_350 rfl (lv_at hl 3 rfl) ?_
  refine lv_iconst (v := (3 : Int32)) hx hb dL_law_351 (by decide) ?_
  refine lv_iadd hx hb dL_law_352 ?_
  refine lawLd (j := 3) (lawJ3 k) h6 (by decide) hL hX hbl hw.1.2.2 hx hb dL_law_353 ?_
  obtain ⟨q, e_q, h⟩ := bnd_of h
  refine lawC (va_runV (As := [.int (xs (6 * k + 1)), .int (xs (6 * k + 2)), .int (xs (6 * k + 3))]) C (cC_join e_q) (cwV 3 hts gL_law_X6_join rfl rfl rfl (by decide +kernel) ⟨Nat.le_of_ble_eq_true rfl, Nat.le_of_ble_eq_true rfl⟩) (preM (recv_699 hw.1.1) hw.1) rfl rfl hl.1 rfl (lv_room (Nat.le_of_ble_eq_true rfl)) dL_law_354 ⟨by show _ ≤ 600000; omega, by show _ ≤ 7302250; omega⟩) hw (fun g H locs hw => ?_)
  obtain ⟨ce, ec⟩ : ∃ x, x = ce + 1 := ⟨_, rfl⟩
  obtain ⟨sl, es⟩ : ∃ x, x = sl + 5 := ⟨_, rfl⟩
  rw [← ec, ← es]
  refine lv_aload_n hx hb dL_law_357 rfl (lv_at hl 2 rfl) ?_
  refine lv_aload_n hx hb dL_law_358 rfl (lv_at hl 0 rfl) ?_
  refine lv_iload_n hx hb dL_law_359 rfl (lv_at hl 3 rfl) ?_
  refine lv_iconst (v := (1 : Int32)) hx hb dL_law_360 (by decide) ?_
  refine lv_iadd hx hb dL_law_361 ?_
  refine lawLd (j := 1) (lawJ1 k) h6 (by decide) hL hX hbl hw.1.2.2 hx hb dL_law_362 ?_
  refine lv_aload_n hx hb dL_law_363 rfl (lv_at hl 0 rfl) ?_
  refine lv_iload_n hx hb dL_law_364 rfl (lv_at hl 3 rfl) ?_
  refine lv_iconst (v := (2 : Int32)) hx hb dL_law_365 (by decide) ?_
  refine lv_iadd hx hb dL_law_366 ?_
  refine lawLd (j := 2) (lawJ2 k) h6 (by decide) hL hX hbl hw.1.2.2 hx hb dL_law_367 ?_
  refine lv_aload_n hx hb dL_law_368 rfl (lv_at hl 0 rfl) ?_
  refine lv_iload_n hx hb dL_law_369 rfl (lv_at hl 3 rfl) ?_
  refine lv_iconst (v := (3 : Int32)) hx hb dL_law_370 (by decide) ?_
  refine lv_iadd hx hb dL_law_371 ?_
  refine lawLd (j := 3) (lawJ3 k) h6 (by decide) hL hX hbl hw.1.2.2 hx hb dL_law_372 ?_
  obtain ⟨r, e_r, h⟩ := bnd_of h
  refine lawM (va_runV (As := [.int (xs (6 * k + 1)), .int (xs (6 * k + 2)), .int (xs (6 * k + 3))]) C (cM_join e_r) (cwV 3 hts gL_law_X7_join rfl rfl rfl (by decide +kernel) ⟨Nat.le_of_ble_eq_true rfl, Nat.le_of_ble_eq_true rfl⟩) (mPreM hw.2.2.2.1 hw.2.1 hw.2.2.1 _) rfl rfl hl.1 rfl (lv_room (Nat.le_of_ble_eq_true rfl)) dL_law_373 ⟨by show _ ≤ 600000; omega, by show _ ≤ 7302250; omega⟩) hw (fun H locs hw => ?_)
  refine lv_icmp_eq (tgt := 791) hx hb dL_law_376 (by decide) (fun cc => ?_) (fun cc => ?_)
  · have h := zz_pos cc h
    have h := some_of h
    subst h
    exact hK _ _ _ _ _ _ hw (by omega) hl
  · have h := zz_neg cc h
    cases h
set_option maxRecDepth 100000 in
set_option maxHeartbeats 4000000 in
theorem lw_case_7 {p : Program} {l : Launch} {e : Env} {s : State} {m : MethodId} {below : List Frame} {meth : Method} {c : Code} {b L N k ce sl : Nat} {xs : Nat → Int32} {D : va_G} {κ κ' : Nat → ClassId} {ρ ρ' : Nat → Nat} {g : Gh} {σ : CSt} {τ : MSt} {H : Heap} {locs : List Loc} {ls : Array Slot} (C : CallFix p m c cL_law 4 s #[Value.ref b] wsL_law RL) (hX : va_X b L xs s s.heap) (hbl : b < s.heap.size) (hL : L ≤ 3072) (h6 : 6 * k + 6 ≤ L) {z : CSt × MSt} (h : law_7 N (xs (6 * k + 1)) (xs (6 * k + 2)) (xs (6 * k + 3)) (xs (6 * k + 4)) (xs (6 * k + 5)) σ τ = some z) (hw : LW D κ ρ g σ κ' ρ' τ s H locs) (hl : lv_has ls 4 [(0, .ref b), (1, .ref (ρ 699)), (2, .ref (ρ' 40)), (3, .int (nI (6 * k)))]) (hc : ce ≤ 63 + 243 * k ∧ sl ≤ 684524 + 8200 * k) (hK : ∀ (g : Gh) (H : Heap) (locs : List Loc) (ce sl : Nat) (ls : Array Slot), LW D κ ρ g z.1 κ' ρ' z.2 s H locs → ce ≤ 63 + 243 * (k + 1) ∧ sl ≤ 684524 + 8200 * (k + 1) → lv_has ls 4 [(0, .ref b), (1, .ref (ρ 699)), (2, .ref (ρ' 40)), (3, .int (nI (6 * k)))] → W p l e room_1 s m #[Value.ref b] below meth c H locs ce sl (lw_Z below #[Value.ref b] s) (F0 m 791 ls [])) : W p l e room_1 s m #[Value.ref b] below meth c H locs ce sl (lw_Z below #[Value.ref b] s) (F0 m 381 ls []) := by
  obtain ⟨hx, hb, hml, hown, hts⟩ := id C
  unfold law_7 at h
  refine lv_aload_n hx hb dL_law_381 rfl (lv_at hl 1 rfl) ?_
  refine lv_aload_n hx hb dL_law_382 rfl (lv_at hl 0 rfl) ?_
  refine lv_iload_n hx hb dL_law_383 rfl (lv_at hl 3 rfl) ?_
  refine lv_iconst (v := (1 : Int32)) hx hb dL_law_384 (by decide) ?_
  refine lv_iadd hx hb dL_law_385 ?_
  refine lawLd (j := 1) (lawJ1 k) h6 (by decide) hL hX hbl hw.1.2.2 hx hb dL_law_386 ?_
  refine lv_aload_n hx hb dL_law_387 rfl (lv_at hl 0 rfl) ?_
  refine lv_iload_n hx hb dL_law_388 rfl (lv_at hl 3 rfl) ?_
  refine lv_iconst (v := (2 : Int32)) hx hb dL_law_389 (by decide) ?_
  refine lv_iadd hx hb dL_law_390 ?_
  refine lawLd (j := 2) (lawJ2 k) h6 (by decide) hL hX hbl hw.1.2.2 hx hb dL_law_391 ?_
  obtain ⟨q, e_q, h⟩ := bnd_of h
  refine callP (W.runV (As := [.int (xs (6 * k + 1)), .int (xs (6 * k + 2))]) C (cC_code e_q) (cwV 2 hts gL_law_X6_code rfl rfl rfl (by decide +kernel) ⟨Nat.le_of_ble_eq_true rfl, Nat.le_of_ble_eq_true rfl⟩) (preR (recv_699 hw.1.1) hw.1.1) rfl rfl hl.1 rfl (lv_room (Nat.le_of_ble_eq_true rfl)) dL_law_392 ⟨by show _ ≤ 600000; omega, by show _ ≤ 7302250; omega⟩) ?_
  refine lv_aload_n hx hb dL_law_395 rfl (lv_at hl 2 rfl) ?_
  refine lv_aload_n hx hb dL_law_396 rfl (lv_at hl 0 rfl) ?_
  refine lv_iload_n hx hb dL_law_397 rfl (lv_at hl 3 rfl) ?_
  refine lv_iconst (v := (1 : Int32)) hx hb dL_law_398 (by decide) ?_
  refine lv_iadd hx hb dL_law_399 ?_
  refine lawLd (j := 1) (lawJ1 k) h6 (by decide) hL hX hbl hw.1.2.2 hx hb dL_law_400 ?_
  refine lv_aload_n hx hb dL_law_401 rfl (lv_at hl 0 rfl) ?_
  refine lv_iload_n hx hb dL_law_402 rfl (lv_at hl 3 rfl) ?_
  refine lv_iconst (v := (2 : Int32)) hx hb dL_law_403 (by decide) ?_
  refine lv_iadd hx hb dL_law_404 ?_
  refine lawLd (j := 2) (lawJ2 k) h6 (by decide) hL hX hbl hw.1.2.2 hx hb dL_law_405 ?_
  obtain ⟨r, e_r, h⟩ := bnd_of h
  refine callP (W.runV (As := [.int (xs (6 * k + 1)), .int (xs (6 * k + 2))]) C (cM_code e_r) (cwV 2 hts gL_law_X7_code rfl rfl rfl (by decide +kernel) ⟨Nat.le_of_ble_eq_true rfl, Nat.le_of_ble_eq_true rfl⟩) (mPreR hw.2.2.2.1 hw.2.1 _) rfl rfl hl.1 rfl (lv_room (Nat.le_of_ble_eq_true rfl)) dL_law_406 ⟨by show _ ≤ 600000; omega, by show _ ≤ 7302250; omega⟩) ?_
  refine lv_icmp_eq (tgt := 791) hx hb dL_law_409 (by decide) (fun cc => ?_) (fun cc => ?_)
  · have h := zz_pos cc h
    have h := some_of h
    subst h
    exact hK _ _ _ _ _ _ hw (by omega) hl
  · have h := zz_neg cc h
    cases h
set_option maxRecDepth 100000 in
set_option maxHeartbeats 4000000 in
theorem lw_case_8 {p : Program} {l : Launch} {e : Env} {s : State} {m : MethodId} {below : List Frame} {meth : Method} {c : Code} {b L N k ce sl : Nat} {xs : Nat → Int32} {D : va_G} {κ κ' : Nat → ClassId} {ρ ρ' : Nat → Nat} {g : Gh} {σ : CSt} {τ : MSt} {H : Heap} {locs : List Loc} {ls : Array Slot} (C : CallFix p m c cL_law 4 s #[Value.ref b] wsL_law RL) (hX : va_X b L xs s s.heap) (hbl : b < s.heap.size) (hL : L ≤ 3072) (h6 : 6 * k + 6 ≤ L) {z : CSt × MSt} (h : law_8 N (xs (6 * k + 1)) (xs (6 * k + 2)) (xs (6 * k + 3)) (xs (6 * k + 4)) (xs (6 * k + 5)) σ τ = some z) (hw : LW D κ ρ g σ κ' ρ' τ s H locs) (hl : lv_has ls 4 [(0, .ref b), (1, .ref (ρ 699)), (2, .ref (ρ' 40)), (3, .int (nI (6 * k)))]) (hc : ce ≤ 63 + 243 * k ∧ sl ≤ 684524 + 8200 * k) (hK : ∀ (g : Gh) (H : Heap) (locs : List Loc) (ce sl : Nat) (ls : Array Slot), LW D κ ρ g z.1 κ' ρ' z.2 s H locs → ce ≤ 63 + 243 * (k + 1) ∧ sl ≤ 684524 + 8200 * (k + 1) → lv_has ls 4 [(0, .ref b), (1, .ref (ρ 699)), (2, .ref (ρ' 40)), (3, .int (nI (6 * k)))] → W p l e room_1 s m #[Value.ref b] below meth c H locs ce sl (lw_Z below #[Value.ref b] s) (F0 m 791 ls [])) : W p l e room_1 s m #[Value.ref b] below meth c H locs ce sl (lw_Z below #[Value.ref b] s) (F0 m 414 ls []) := by
  obtain ⟨hx, hb, hml, hown, hts⟩ := id C
  unfold law_8 at h
  refine lv_aload_n hx hb dL_law_414 rfl (lv_at hl 1 rfl) ?_
  refine lv_aload_n hx hb dL_law_415 rfl (lv_at hl 0 rfl) ?_
  refine lv_iload_n hx hb dL_law_416 rfl (lv_at hl 3 rfl) ?_
  refine lv_iconst (v := (1 : Int32)) hx hb dL_law_417 (by decide) ?_
  refine lv_iadd hx hb dL_law_418 ?_
  refine lawLd (j := 1) (lawJ1 k) h6 (by decide) hL hX hbl hw.1.2.2 hx hb dL_law_419 ?_
  refine lv_aload_n hx hb dL_law_420 rfl (lv_at hl 0 rfl) ?_
  refine lv_iload_n hx hb dL_law_421 rfl (lv_at hl 3 rfl) ?_
  refine lv_iconst (v := (2 : Int32)) hx hb dL_law_422 (by decide) ?_
  refine lv_iadd hx hb dL_law_423 ?_
  refine lawLd (j := 2) (lawJ2 k) h6 (by decide) hL hX hbl hw.1.2.2 hx hb dL_law_424 ?_
  obtain ⟨q, e_q, h⟩ := bnd_of h
  refine callP (W.runV (As := [.int (xs (6 * k + 1)), .int (xs (6 * k + 2))]) C (cC_about e_q) (cwV 2 hts gL_law_X6_about rfl rfl rfl (by decide +kernel) ⟨Nat.le_of_ble_eq_true rfl, Nat.le_of_ble_eq_true rfl⟩) (preR (recv_699 hw.1.1) hw.1.1) rfl rfl hl.1 rfl (lv_room (Nat.le_of_ble_eq_true rfl)) dL_law_425 ⟨by show _ ≤ 600000; omega, by show _ ≤ 7302250; omega⟩) ?_
  refine lv_aload_n hx hb dL_law_428 rfl (lv_at hl 2 rfl) ?_
  refine lv_aload_n hx hb dL_law_429 rfl (lv_at hl 0 rfl) ?_
  refine lv_iload_n hx hb dL_law_430 rfl (lv_at hl 3 rfl) ?_
  refine lv_iconst (v := (1 : Int32)) hx hb dL_law_431 (by decide) ?_
  refine lv_iadd hx hb dL_law_432 ?_
  refine lawLd (j := 1) (lawJ1 k) h6 (by decide) hL hX hbl hw.1.2.2 hx hb dL_law_433 ?_
  refine lv_aload_n hx hb dL_law_434 rfl (lv_at hl 0 rfl) ?_
  refine lv_iload_n hx hb dL_law_435 rfl (lv_at hl 3 rfl) ?_
  refine lv_iconst (v := (2 : Int32)) hx hb dL_law_436 (by decide) ?_
  refine lv_iadd hx hb dL_law_437 ?_
  refine lawLd (j := 2) (lawJ2 k) h6 (by decide) hL hX hbl hw.1.2.2 hx hb dL_law_438 ?_
  obtain ⟨r, e_r, h⟩ := bnd_of h
  refine lawM (va_runV (As := [.int (xs (6 * k + 1)), .int (xs (6 * k + 2))]) C (cM_about e_r) (cwV 2 hts gL_law_X7_about rfl rfl rfl (by decide +kernel) ⟨Nat.le_of_ble_eq_true rfl, Nat.le_of_ble_eq_true rfl⟩) (mPreM hw.2.2.2.1 hw.2.1 hw.2.2.1 _) rfl rfl hl.1 rfl (lv_room (Nat.le_of_ble_eq_true rfl)) dL_law_439 ⟨by show _ ≤ 600000; omega, by show _ ≤ 7302250; omega⟩) hw (fun H locs hw => ?_)
  refine lv_icmp_eq (tgt := 791) hx hb dL_law_442 (by decide) (fun cc => ?_) (fun cc => ?_)
  · have h := zz_pos cc h
    have h := some_of h
    subst h
    exact hK _ _ _ _ _ _ hw (by omega) hl
  · have h := zz_neg cc h
    cases h
set_option maxRecDepth 100000 in
set_option maxHeartbeats 4000000 in
theorem lw_case_9 {p : Program} {l : Launch} {e : Env} {s : State} {m : MethodId} {below : List Frame} {meth : Method} {c : Code} {b L N k ce sl : Nat} {xs : Nat → Int32} {D : va_G} {κ κ' : Nat → ClassId} {ρ ρ' : Nat → Nat} {g : Gh} {σ : CSt} {τ : MSt} {H : Heap} {locs : List Loc} {ls : Array Slot} (C : CallFix p m c cL_law 4 s #[Value.ref b] wsL_law RL) (hX : va_X b L xs s s.heap) (hbl : b < s.heap.size) (hL : L ≤ 3072) (h6 : 6 * k + 6 ≤ L) {z : CSt × MSt} (h : law_9 N (xs (6 * k + 1)) (xs (6 * k + 2)) (xs (6 * k + 3)) (xs (6 * k + 4)) (xs (6 * k + 5)) σ τ = some z) (hw : LW D κ ρ g σ κ' ρ' τ s H locs) (hl : lv_has ls 4 [(0, .ref b), (1, .ref (ρ 699)), (2, .ref (ρ' 40)), (3, .int (nI (6 * k)))]) (hc : ce ≤ 63 + 243 * k ∧ sl ≤ 684524 + 8200 * k) (hK : ∀ (g : Gh) (H : Heap) (locs : List Loc) (ce sl : Nat) (ls : Array Slot), LW D κ ρ g z.1 κ' ρ' z.2 s H locs → ce ≤ 63 + 243 * (k + 1) ∧ sl ≤ 684524 + 8200 * (k + 1) → lv_has ls 4 [(0, .ref b), (1, .ref (ρ 699)), (2, .ref (ρ' 40)), (3, .int (nI (6 * k)))] → W p l e room_1 s m #[Value.ref b] below meth c H locs ce sl (lw_Z below #[Value.ref b] s) (F0 m 791 ls [])) : W p l e room_1 s m #[Value.ref b] below meth c H locs ce sl (lw_Z below #[Value.ref b] s) (F0 m 447 ls []) := by
  obtain ⟨hx, hb, hml, hown, hts⟩ := id C
  unfold law_9 at h
  refine lv_aload_n hx hb dL_law_447 rfl (lv_at hl 1 rfl) ?_
  refine lv_aload_n hx hb dL_law_448 rfl (lv_at hl 0 rfl) ?_
  refine lv_iload_n hx hb dL_law_449 rfl (lv_at hl 3 rfl) ?_
  refine lv_iconst (v := (1 : Int32)) hx hb dL_law_450 (by decide) ?_
  refine lv_iadd hx hb dL_law_451 ?_
  refine lawLd (j := 1) (lawJ1 k) h6 (by decide) hL hX hbl hw.1.2.2 hx hb dL_law_452 ?_
  refine lv_aload_n hx hb dL_law_453 rfl (lv_at hl 0 rfl) ?_
  refine lv_iload_n hx hb dL_law_454 rfl (lv_at hl 3 rfl) ?_
  refine lv_iconst (v := (2 : Int32)) hx hb dL_law_455 (by decide) ?_
  refine lv_iadd hx hb dL_law_456 ?_
  refine lawLd (j := 2) (lawJ2 k) h6 (by decide) hL hX hbl hw.1.2.2 hx hb dL_law_457 ?_
  obtain ⟨q, e_q, h⟩ := bnd_of h
  refine callP (W.runV (As := [.int (xs (6 * k + 1)), .int (xs (6 * k + 2))]) C (cC_price e_q) (cwV 2 hts gL_law_X6_price rfl rfl rfl (by decide +kernel) ⟨Nat.le_of_ble_eq_true rfl, Nat.le_of_ble_eq_true rfl⟩) (preR (recv_699 hw.1.1) hw.1.1) rfl rfl hl.1 rfl (lv_room (Nat.le_of_ble_eq_true rfl)) dL_law_458 ⟨by show _ ≤ 600000; omega, by show _ ≤ 7302250; omega⟩) ?_
  refine lv_aload_n hx hb dL_law_461 rfl (lv_at hl 2 rfl) ?_
  refine lv_aload_n hx hb dL_law_462 rfl (lv_at hl 0 rfl) ?_
  refine lv_iload_n hx hb dL_law_463 rfl (lv_at hl 3 rfl) ?_
  refine lv_iconst (v := (1 : Int32)) hx hb dL_law_464 (by decide) ?_
  refine lv_iadd hx hb dL_law_465 ?_
  refine lawLd (j := 1) (lawJ1 k) h6 (by decide) hL hX hbl hw.1.2.2 hx hb dL_law_466 ?_
  refine lv_aload_n hx hb dL_law_467 rfl (lv_at hl 0 rfl) ?_
  refine lv_iload_n hx hb dL_law_468 rfl (lv_at hl 3 rfl) ?_
  refine lv_iconst (v := (2 : Int32)) hx hb dL_law_469 (by decide) ?_
  refine lv_iadd hx hb dL_law_470 ?_
  refine lawLd (j := 2) (lawJ2 k) h6 (by decide) hL hX hbl hw.1.2.2 hx hb dL_law_471 ?_
  obtain ⟨r, e_r, h⟩ := bnd_of h
  refine lawM (va_runV (As := [.int (xs (6 * k + 1)), .int (xs (6 * k + 2))]) C (cM_price e_r) (cwV 2 hts gL_law_X7_price rfl rfl rfl (by decide +kernel) ⟨Nat.le_of_ble_eq_true rfl, Nat.le_of_ble_eq_true rfl⟩) (mPreM hw.2.2.2.1 hw.2.1 hw.2.2.1 _) rfl rfl hl.1 rfl (lv_room (Nat.le_of_ble_eq_true rfl)) dL_law_472 ⟨by show _ ≤ 600000; omega, by show _ ≤ 7302250; omega⟩) hw (fun H locs hw => ?_)
  refine W.lcmp hx hb dL_law_475 ?_
  refine lv_if_eq (tgt := 791) hx hb dL_law_476 (by decide) (fun cc => ?_) (fun cc => ?_)
  · have h := zz_pos cc h
    have h := some_of h
    subst h
    exact hK _ _ _ _ _ _ hw (by omega) hl
  · have h := zz_neg cc h
    cases h
set_option maxRecDepth 100000 in
set_option maxHeartbeats 4000000 in
theorem lw_case_10 {p : Program} {l : Launch} {e : Env} {s : State} {m : MethodId} {below : List Frame} {meth : Method} {c : Code} {b L N k ce sl : Nat} {xs : Nat → Int32} {D : va_G} {κ κ' : Nat → ClassId} {ρ ρ' : Nat → Nat} {g : Gh} {σ : CSt} {τ : MSt} {H : Heap} {locs : List Loc} {ls : Array Slot} (C : CallFix p m c cL_law 4 s #[Value.ref b] wsL_law RL) (hX : va_X b L xs s s.heap) (hbl : b < s.heap.size) (hL : L ≤ 3072) (h6 : 6 * k + 6 ≤ L) {z : CSt × MSt} (h : law_10 N (xs (6 * k + 1)) (xs (6 * k + 2)) (xs (6 * k + 3)) (xs (6 * k + 4)) (xs (6 * k + 5)) σ τ = some z) (hw : LW D κ ρ g σ κ' ρ' τ s H locs) (hl : lv_has ls 4 [(0, .ref b), (1, .ref (ρ 699)), (2, .ref (ρ' 40)), (3, .int (nI (6 * k)))]) (hc : ce ≤ 63 + 243 * k ∧ sl ≤ 684524 + 8200 * k) (hK : ∀ (g : Gh) (H : Heap) (locs : List Loc) (ce sl : Nat) (ls : Array Slot), LW D κ ρ g z.1 κ' ρ' z.2 s H locs → ce ≤ 63 + 243 * (k + 1) ∧ sl ≤ 684524 + 8200 * (k + 1) → lv_has ls 4 [(0, .ref b), (1, .ref (ρ 699)), (2, .ref (ρ' 40)), (3, .int (nI (6 * k)))] → W p l e room_1 s m #[Value.ref b] below meth c H locs ce sl (lw_Z below #[Value.ref b] s) (F0 m 791 ls [])) : W p l e room_1 s m #[Value.ref b] below meth c H locs ce sl (lw_Z below #[Value.ref b] s) (F0 m 481 ls []) := by
  obtain ⟨hx, hb, hml, hown, hts⟩ := id C
  unfold law_10 at h
  refine lv_aload_n hx hb dL_law_481 rfl (lv_at hl 1 rfl) ?_
  refine lv_aload_n hx hb dL_law_482 rfl (lv_at hl 0 rfl) ?_
  refine lv_iload_n hx hb dL_law_483 rfl (lv_at hl 3 rfl) ?_
  refine lv_iconst (v := (1 : Int32)) hx hb dL_law_484 (by decide) ?_
  refine lv_iadd hx hb dL_law_485 ?_
  refine lawLd (j := 1) (lawJ1 k) h6 (by decide) hL hX hbl hw.1.2.2 hx hb dL_law_486 ?_
  obtain ⟨q, e_q, h⟩ := bnd_of h
  refine lawC (va_runV (As := [.int (xs (6 * k + 1))]) C (cC_best e_q) (cwV 1 hts gL_law_X6_best rfl rfl rfl (by decide +kernel) ⟨Nat.le_of_ble_eq_true rfl, Nat.le_of_ble_eq_true rfl⟩) (preM (recv_699 hw.1.1) hw.1) rfl rfl hl.1 rfl (lv_room (Nat.le_of_ble_eq_true rfl)) dL_law_487 ⟨by show _ ≤ 600000; omega, by show _ ≤ 7302250; omega⟩) hw (fun g H locs hw => ?_)
  obtain ⟨ce, ec⟩ : ∃ x, x = ce + 1 := ⟨_, rfl⟩
  obtain ⟨sl, es⟩ : ∃ x, x = sl + 5 := ⟨_, rfl⟩
  rw [← ec, ← es]
  refine lv_aload_n hx hb dL_law_490 rfl (lv_at hl 2 rfl) ?_
  refine lv_aload_n hx hb dL_law_491 rfl (lv_at hl 0 rfl) ?_
  refine lv_iload_n hx hb dL_law_492 rfl (lv_at hl 3 rfl) ?_
  refine lv_iconst (v := (1 : Int32)) hx hb dL_law_493 (by decide) ?_
  refine lv_iadd hx hb dL_law_494 ?_
  refine lawLd (j := 1) (lawJ1 k) h6 (by decide) hL hX hbl hw.1.2.2 hx hb dL_law_495 ?_
  obtain ⟨r, e_r, h⟩ := bnd_of h
  refine lawM (va_runV (As := [.int (xs (6 * k + 1))]) C (cM_best e_r) (cwV 1 hts gL_law_X7_best rfl rfl rfl (by decide +kernel) ⟨Nat.le_of_ble_eq_true rfl, Nat.le_of_ble_eq_true rfl⟩) (mPreM hw.2.2.2.1 hw.2.1 hw.2.2.1 _) rfl rfl hl.1 rfl (lv_room (Nat.le_of_ble_eq_true rfl)) dL_law_496 ⟨by show _ ≤ 600000; omega, by show _ ≤ 7302250; omega⟩) hw (fun H locs hw => ?_)
  refine lv_icmp_eq (tgt := 791) hx hb dL_law_499 (by decide) (fun cc => ?_) (fun cc => ?_)
  · have h := zz_pos cc h
    have h := some_of h
    subst h
    exact hK _ _ _ _ _ _ hw (by omega) hl
  · have h := zz_neg cc h
    cases h
