/-! run: the call -/
theorem J129_ok {N : Nat} (hN : 30000 ≤ N) {S : Nat} {L : List Nat} {τ : MSt} (hL : L.length ≤ 4096) (h30 : τ.2.2.1 30 0 = nI L.length) (hML : ML τ 0 S L) : ∃ τ', fM_run_J129 N τ = some (nI L.length, τ') ∧ HW τ τ' ∧ τ'.1 38 = nI L.length ∧ τ'.1 37 = τ.1 37 ∧ ∀ i v t, t < 4 → L[i]? = some v → τ'.2.2.1 39 (4 * i + t) = dg4 S v t := by
  unfold fM_run_J129
  rw [chk_in (show vp_in (0 : Int32) 5 by unfold vp_in; decide), show (0 : Int32).toNatClampNeg = 0 from rfl, h30]
  obtain ⟨τ', a1, a2, a3⟩ := outs_loop (N := N) (S := S) (L := L) rfl hL N (4 * L.length) 0 (sI τ 38 (nI L.length)) (by omega) (by omega) rfl hML (fun i v t h => by omega)
  rw [nI_0] at a1
  refine ⟨τ', a1, ⟨fun k hk => ?_, fun k hk => ?_⟩, ?_, ?_, a3⟩
  · rw [a2.1, sI_1, if_neg (by omega)]
  · rw [a2.2.2.1 k (by omega)]; rfl
  · rw [a2.1]; rfl
  · rw [a2.1, sI_1, if_neg (by omega)]
theorem Ran_of {q : Qd} {S n3 : Nat} {M : List Nat} {σ : CSt} {τ : MSt} (h0 : σ.2.2.1 404 0 = nI 0) (l2 : σ.2.2.2.2.2 402 = n3 + 4) (l3 : σ.2.2.2.2.2 403 = n3) (hn3 : n3 ≤ 4096) (hM : M.length ≤ n3) (hS : S < 16) (hst : σ.1 400 = τ.1 37) (h412 : σ.1 412 = nI M.length) (h411 : σ.1 411 = nI S) (hs : Seg (σ.2.2.1 402) 0 M) (hv : ∀ v, v ∈ M → Vc q S v) (h38 : τ.1 38 = nI M.length) (h39 : ∀ i v t, t < 4 → M[i]? = some v → τ.2.2.1 39 (4 * i + t) = dg4 S v t) : Ran σ τ := by
  refine ⟨h0, Or.inr (by omega), by omega, hst, M.length, S, by omega, by omega, hS, h412, h38, h411, ?_⟩
  intro i hi
  have hm : M[i]? = some M[i] := List.getElem?_eq_getElem hi
  refine ⟨M[i], (hv _ (List.mem_of_getElem? hm)).1, ?_, fun t ht => h39 i _ t ht hm⟩
  have := hs i _ hm
  rw [Nat.zero_add] at this
  exact this
theorem all_bit : ∀ T, T < 5 → ∀ t, t < T → (2 ^ T - 1) / 2 ^ t % 2 = 1 := by decide +kernel
theorem run_ok {N : Nat} (hN : 30000 ≤ N) {q : Qd} {c : Nat} {σ : CSt} {τ : MSt} (hB : Base q c σ τ) (hSp : SpanI q σ) (hR : Ran σ τ) (x : Int32) : ∃ r σ' τ', fC_run N σ x = some (r, σ') ∧ fM_run N τ x = some (r, τ') ∧ Base q c σ' τ' ∧ SpanI q σ' ∧ Ran σ' τ' := by
  have hq := hB.1
  have hT := hB.1.1
  have hc := hB.2.2.2.1
  have h16 : 2 ^ qT q ≤ 16 := Nat.pow_le_pow_right (n := 2) (by omega) hT
  unfold fC_run fM_run
  rcases planAt_ok (N := N) hB x with ⟨h1, h2⟩ | ⟨i, S, e, hi, rfl, hp, h1, h2, h3, h4, h5, h6⟩
  · rw [h1, h2]; exact ⟨_, σ, τ, rfl, rfl, hB, hSp, hR⟩
  · have hW := (hB.2.2.2.2.2.2.2.2 (by omega)).1
    have hS16 : S < 16 := by omega
    have hdg := dg_le S hS16
    have bfl := fl_bd hq hS16 h3
    obtain ⟨e', he', hcode, -, -⟩ := fl_mem h3
    have hce : eC e = eC e' := by rcases hcode with rfl | rfl; rfl; exact fin_C _ _ _
    have helt := eC_lt hq hS16 he'
    rw [h6, hp, bs, bs, if_neg n10, onS]
    unfold fR_work
    obtain ⟨σ1, n3, r1, r2, r3, r4, r5, r6, r7⟩ := makeRoom_ok (N := N) (by omega) hq hB.2.1 hR.1 hR.2.1 hR.2.2.1
    rw [r1, bs, onS]
    have hcl : ∀ σ', fP_codeLength N σ' (pl q S e) = some (nI (dg S)) := by
      intro σ'
      unfold fP_codeLength pl
      show (fJ_bitCount_0f7a4 N (nI S)).bind _ = _
      rw [bitC N (by omega), bs, dg_I S (by omega) h1]
    rw [hcl, bs, chk_nI (by omega) (by omega), nI_cl (by omega)]
    have e13 : (sI (sI τ 36 0) 37 0).2.2.1 13 i = nI S := h5
    rw [e13, digits_ok (by omega) hS16 h1, bs]
    have f2 : GW σ1 (cI (cI σ1 400 0) 410 0) := ⟨fun k hk => by rw [cI_1, if_neg (by omega), cI_1, if_neg (by omega)], fun _ _ => rfl, rfl, rfl⟩
    have g2 : HW τ (sI (sI τ 36 0) 37 0) := ⟨fun k hk => by rw [sI_1, if_neg (by omega), sI_1, if_neg (by omega)], fun _ _ => rfl⟩
    have R2 : Rst q n3 [] (cI (cI σ1 400 0) 410 0) (sI (sI τ 36 0) 37 0) := ⟨CQd_GW (r2.trans f2) hB.2.1, MQd_HW g2 hB.2.2.1, rfl, rfl, r3, trivial, rfl, r4, r5⟩
    generalize cI (cI σ1 400 0) 410 0 = σ2 at f2 R2
    generalize sI (sI τ 36 0) 37 0 = τ2 at g2 R2
    have B2 := Base_HW g2 hB
    have G2 := r2.trans f2
    have hpr := pr_pm q S 4
    have hbc := bc_le S hS16
    obtain ⟨L, σ3, τ3, t1, t2, t3, t4, t5, t6, t7⟩ := run_ent (N := N) hN hq hW hS16 h1 (e0 := e) bfl.1 hi hc r6 r7 (fun (σ : CSt) (x1 : Option Pl) => on x1 none (fun x_59 => chk (1 : Int32) 5 ((fQ_orderFactor N (cI (cI σ 411 x_59.1) 412 ((cI σ 411 x_59.1).2.2.1 404 (1 : Int32).toNatClampNeg)) x_59.1 x_59.2.2.2.2).bind fun r_87 => (if r_87 ≤ 0 then some (((cI (cI σ 411 x_59.1) 412 ((cI σ 411 x_59.1).2.2.1 404 (1 : Int32).toNatClampNeg)).1 412), (cI (cI σ 411 x_59.1) 412 ((cI σ 411 x_59.1).2.2.1 404 (1 : Int32).toNatClampNeg))) else (fR_sort N (cI (cI σ 411 x_59.1) 412 ((cI σ 411 x_59.1).2.2.1 404 (1 : Int32).toNatClampNeg)) (0 : Int32) ((cI (cI σ 411 x_59.1) 412 ((cI σ 411 x_59.1).2.2.1 404 (1 : Int32).toNatClampNeg)).1 412) ((cI (cI σ 411 x_59.1) 412 ((cI σ 411 x_59.1).2.2.1 404 (1 : Int32).toNatClampNeg)).1 303) ((cI (cI σ 411 x_59.1) 412 ((cI σ 411 x_59.1).2.2.1 404 (1 : Int32).toNatClampNeg)).1 304)).bind fun r_115 => some (((cI r_115 400 ((r_115.1 400) + (r_87 * (r_115.1 412)))).1 412), (cI r_115 400 ((r_115.1 400) + (r_87 * (r_115.1 412)))))))))
      (fun (σ : MSt) (x1 : Int32) => (fM_isWholePlan N σ x1).bind fun r_78 => (if r_78 = 0 then fM_run_J129 N σ else (if (σ.1 2) < 0 then fM_run_J129 N σ else (fM_about N σ x1 (2 : Int32)).bind fun r_94 => (if r_94.1 = 0 then chk (0 : Int32) 5 ((fM_sort N (sI r_94.2 37 ((r_94.2.1 37) + ((3 : Int32) * (r_94.2.2.2.1 30 (0 : Int32).toNatClampNeg)))) ((sI r_94.2 37 ((r_94.2.1 37) + ((3 : Int32) * (r_94.2.2.2.1 30 (0 : Int32).toNatClampNeg)))).1 2) ((sI r_94.2 37 ((r_94.2.1 37) + ((3 : Int32) * (r_94.2.2.2.1 30 (0 : Int32).toNatClampNeg)))).1 3)).bind fun r_126 => fM_run_J129 N r_126) else fM_run_J129 N r_94.2))))
      S S (Nat.le_refl _) h2 e' he' 0 [] σ2 τ2 (N - dg S) (N - dg S) (by omega) (by rw [Nat.pow_zero, Nat.div_one, hce, Nat.mod_eq_of_lt helt]) R2 B2.2.2.2.2.2.1 (by rw [g2.2 12 (by omega)]; exact h4) (by rw [g2.2 13 (by omega)]; exact h5) (by rw [List.length_nil]; omega) (by show 0 + _ + _ ≤ _; omega) (fun x hx => absurd hx List.not_mem_nil)
    rw [show N - dg S + dg S = N by omega, Nat.sub_zero, show dg S - (0 + dg S) = 0 by omega] at t1 t2
    obtain ⟨n0, hn0⟩ : ∃ k, N - dg S = k + 1 := ⟨N - dg S - 1, by omega⟩
    rw [hn0, fR_work_L21, if_pos (show ix 0 < 0 by decide)] at t1
    rw [hn0, fM_run_L35, if_pos (show ix 0 < 0 by decide)] at t2
    rw [show nI (dg S) - (1 : Int32) = ix (dg S) from rfl, t1, t2, onS, chk_in (show vp_in (1 : Int32) 5 by unfold vp_in; decide), show (1 : Int32).toNatClampNeg = 1 from rfl, show (0 : Int32).toNatClampNeg = 0 from rfl]
    obtain ⟨C3, M3, c410, m36, cs3, ms3, st3, l2, l3⟩ := t3
    have hLl : L.length ≤ n3 := by omega
    have hL4 : L.length ≤ 4096 := by omega
    have e404 : σ3.2.2.1 404 1 = nI L.length := by
      have := cs3.2.2.1
      rw [show tt ([] : Stk) = 0 from rfl, Nat.zero_add] at this
      exact this
    have s402 : Seg (σ3.2.2.1 402) 0 L := cs3.2.2.2
    have hML : ML τ3 0 S L := ms3.2.2.2
    have h30 : τ3.2.2.1 30 0 = nI L.length := ms3.2.1
    have e1 : (pl q S e).1 = nI S := rfl
    have e404' : (cI σ3 411 (nI S)).2.2.1 404 1 = nI L.length := e404
    rw [e1, e404']
    have f4 : GW σ3 (cI (cI σ3 411 (nI S)) 412 (nI L.length)) := ⟨fun k hk => by rw [cI_1, if_neg (by omega), cI_1, if_neg (by omega)], fun _ _ => rfl, rfl, rfl⟩
    have G4 := (G2.trans t6.GW).trans f4
    have C4 := CQd_GW G4 hB.2.1
    have i412 : (cI (cI σ3 411 (nI S)) 412 (nI L.length)).1 412 = nI L.length := rfl
    have i411 : (cI (cI σ3 411 (nI S)) 412 (nI L.length)).1 411 = nI S := rfl
    have i400 : (cI (cI σ3 411 (nI S)) 412 (nI L.length)).1 400 = τ3.1 37 := st3
    have k402 : Seg ((cI (cI σ3 411 (nI S)) 412 (nI L.length)).2.2.1 402) 0 L := s402
    have k404 : (cI (cI σ3 411 (nI S)) 412 (nI L.length)).2.2.1 404 0 = nI 0 := show σ3.2.2.1 404 0 = nI 0 from CS_0 cs3
    have n402 : (cI (cI σ3 411 (nI S)) 412 (nI L.length)).2.2.2.2.2 402 = n3 + 4 := l2
    have n403 : (cI (cI σ3 411 (nI S)) 412 (nI L.length)).2.2.2.2.2 403 = n3 := l3
    generalize cI (cI σ3 411 (nI S)) 412 (nI L.length) = σ4 at f4 G4 C4 i412 i411 i400 k402 k404 n402 n403
    have H3 := g2.trans t7.HW
    have B3 : Base q c σ τ3 := Base_HW H3 hB
    have BF := Base_GW G4 (Base_HW H3 hB)
    have SF := SpanI_GW G4 hSp
    unfold fM_isWholePlan
    rw [chk_nI (by omega) (by omega), all_M hq M3, bs, nI_cl (by omega), show τ3.2.2.1 13 i = nI S by rw [H3.2 13 (by omega)]; exact h5, M3.2.2.1]
    obtain ⟨ra, τa, b1, b2, b3⟩ := about_ok (N := N) (by omega) B3 (nI i) 2
    have hab : ra = if ioB q (eK e) (eL e) (S - eL e) = true then 1 else 0 := by
      unfold fC_about at b1
      rw [h6, bs, onS, if_neg (by decide), if_neg (by decide), if_pos rfl] at b1
      have b1 : (if (if ioB q (eK e) (eL e) (S - eL e) = true then (1 : Int32) else 0) = 0 then some (0 : Int32) else some 1) = some ra := b1
      by_cases g : ioB q (eK e) (eL e) (S - eL e) = true
      · rw [if_pos g, if_neg n10] at b1
        rw [if_pos g]; exact (Option.some.inj b1).symm
      · rw [if_neg g, if_pos rfl] at b1
        rw [if_neg g]; exact (Option.some.inj b1).symm
    have hMLa : ML τa 0 S L := fun i v k hi hk => by rw [b3.2.2.1 29 (by omega) (by omega) (by omega) (by omega)]; exact hML i v k hi hk
    have h30a : τa.2.2.1 30 0 = nI L.length := by rw [b3.2.2.1 30 (by omega) (by omega) (by omega) (by omega)]; exact h30
    have h37a : τa.1 37 = τ3.1 37 := b3.1 37 (by omega)
    have h36a : τa.1 36 = nI 1 := by rw [b3.1 36 (by omega)]; exact m36
    have Ha := H3.trans b3.HW
    have Ma := MQd_HW Ha hB.2.2.1
    have fin0 : ∀ τx, HW τ τx → τx.2.2.1 30 0 = nI L.length → ML τx 0 S L → τx.1 37 = τ3.1 37 → ∃ r σ' τ', some (nI L.length, σ4) = some (r, σ') ∧ fM_run_J129 N τx = some (r, τ') ∧ Base q c σ' τ' ∧ SpanI q σ' ∧ Ran σ' τ' := by
      intro τx hx x30 xML x37
      obtain ⟨τ', j1, j2, j3, j4, j5⟩ := J129_ok (N := N) hN hL4 x30 xML
      exact ⟨_, σ4, τ', rfl, j1, Base_GW G4 (Base_HW (hx.trans j2) hB), SF, Ran_of k404 n402 n403 r7 hLl hS16 (by rw [i400, j4, x37]) i412 i411 k402 t4 j3 j5⟩
    have hfl : (pl q S e).2.2.2.2 = if ioB q (eK e) (eL e) (S - eL e) = true then 1 else 0 := rfl
    rcases orderFactor_ok (N := N) hq C4 hS16 (pl q S e).2.2.2.2 with ⟨o1, o2, o3, o4⟩ | ⟨o1, o2⟩
    · rw [hfl] at o4
      have hno : ¬ ioB q (eK e) (eL e) (S - eL e) = true := fun g => by rw [if_pos g] at o4; exact n10 o4
      rw [if_neg hno] at hab
      rw [o1, bs, if_neg (by decide), if_pos (by rw [o2]), bs, if_neg n10, if_neg (fun h => o3 ((qot_neg hq).mp h)), b2, bs, hab, if_pos rfl, chk_in (show vp_in (0 : Int32) 5 by unfold vp_in; decide), i412]
      rcases hq.2.2.2.2.2.2 with g | ⟨t, cc, w1, w2, w3, w4⟩
      · exact absurd g o3
      · rw [C4.2.2.1, C4.2.2.2.1, w3, w4]
        obtain ⟨σ5, M, s1, s2, s3, s4, s5, s6⟩ := sort_C (N := N) (by omega) hq C4 (a := 0) (n2 := n3 + 4) (n3 := n3) (L := L) w1 w2 hL4 (by omega) (by omega) hLl (by omega) n402 n403 k402 (fun v hv => ⟨(t4 v hv).1, ((t4 v hv).2 t (by omega)).2 (by rw [o2]; exact all_bit (qT q) (by omega) t w1)⟩)
        rw [nI_0, Nat.zero_add] at s1
        rw [s1, bs]
        have h37b : (sI τa 37 (τa.1 37 + (3 : Int32) * nI L.length)).1 37 = τ3.1 37 + (3 : Int32) * nI L.length := by rw [sI_1, if_pos rfl, h37a]
        have Hb : HW τa (sI τa 37 (τa.1 37 + (3 : Int32) * nI L.length)) := ⟨fun k hk => by rw [sI_1, if_neg (by omega)], fun _ _ => rfl⟩
        have Mb := MQd_HW Hb Ma
        have h36b : (sI τa 37 (τa.1 37 + (3 : Int32) * nI L.length)).1 36 = nI (0 + 1) := by rw [sI_1, if_neg (by omega)]; exact h36a
        have h30b : (sI τa 37 (τa.1 37 + (3 : Int32) * nI L.length)).2.2.1 30 0 = nI L.length := h30a
        have hMLb : ML (sI τa 37 (τa.1 37 + (3 : Int32) * nI L.length)) (82944 * 0) S L := hMLa
        rw [h30a]
        generalize sI τa 37 (τa.1 37 + (3 : Int32) * nI L.length) = τb at h37b Hb Mb h36b h30b hMLb
        rw [Mb.2.2.1, Mb.2.2.2.1, w3, w4]
        obtain ⟨τc, M', u1, u2, u3, u4, u5⟩ := sort_M (N := N) hN hq Mb (d := 0) (by omega) hL4 t4 (show t < 4 by omega) (by rw [o2]; exact all_bit (qT q) (by omega) t w1) w2 h36b h30b hMLb
        have hMM : M' = M := ss_uniq u4 s2
        subst hMM
        rw [u1, bs]
        obtain ⟨τ', j1, j2, j3, j4, j5⟩ := J129_ok (N := N) hN (L := M') (S := S) (by omega) (by rw [u2.2.1 30 (by omega), s3]; exact h30b) (fun i v k hi hk => by have := u3 i v k hi hk; rw [Nat.mul_zero] at this; exact this)
        have Hc : HW τb τc := ⟨fun k _ => by rw [u2.1], fun k hk => u2.2.1 k (by omega)⟩
        have f5 : GW σ4 σ5 := s6.GR.GW
        have f6 : GW σ5 (cI σ5 400 (σ5.1 400 + (3 : Int32) * σ5.1 412)) := ⟨fun k hk => by rw [cI_1, if_neg (by omega)], fun _ _ => rfl, rfl, rfl⟩
        have e412 : σ5.1 412 = nI M'.length := by rw [s6.1, s3]; exact i412
        have G6 := (G4.trans f5).trans f6
        refine ⟨nI M'.length, _, τ', ?_, ?_, Base_GW G6 (Base_HW (((Ha.trans Hb).trans Hc).trans j2) hB), SpanI_GW G6 hSp, ?_⟩
        · show some ((cI σ5 400 (σ5.1 400 + (3 : Int32) * σ5.1 412)).1 412, cI σ5 400 (σ5.1 400 + (3 : Int32) * σ5.1 412)) = _
          rw [cI_1, if_neg (by omega), e412]
        · exact j1
        · refine Ran_of (n3 := n3) (M := M') (S := S) (q := q) ?_ ?_ ?_ r7 (by omega) hS16 ?_ ?_ ?_ ?_ (fun v hv => t4 v ((stS_mem s2 v).mp hv)) j3 j5
          · rw [cI_2, s6.2.1 404 (by omega) (by omega) (by omega) (by omega)]; exact k404
          · rw [cI_2, s6.2.2]; exact n402
          · rw [cI_2, s6.2.2]; exact n403
          · rw [cI_1, if_pos rfl, j4, u2.1, h37b, e412, s3, s6.1, i400]
          · rw [cI_1, if_neg (by omega)]; exact e412
          · rw [cI_1, if_neg (by omega), s6.1]; exact i411
          · rw [cI_2]; exact s4
    · rw [o1, bs, if_pos (by decide), i412]
      show ∃ r σ' τ', some (nI L.length, σ4) = some (r, σ') ∧ _
      by_cases g1 : S = 2 ^ qT q - 1
      · rw [if_pos (by rw [g1]), bs, if_neg n10]
        by_cases g2 : qot q = -1
        · rw [if_pos ((qot_neg hq).mpr g2)]
          exact fin0 τ3 H3 h30 hML rfl
        · rw [if_neg (fun h => g2 ((qot_neg hq).mp h)), b2, bs]
          have hio : ioB q (eK e) (eL e) (S - eL e) = true := by
            cases hh : ioB q (eK e) (eL e) (S - eL e) with
            | true => rfl
            | false => exact absurd ⟨g1, g2, by rw [hfl, if_neg (by rw [hh]; decide)]⟩ o2
          rw [if_pos hio] at hab
          rw [hab, if_neg n10]
          exact fin0 τa Ha h30a hMLa h37a
      · rw [if_neg (fun h => g1 ((nI_eq (by omega) (by omega)).mp h)), bs, if_pos rfl]
        exact fin0 τ3 H3 h30 hML rfl
