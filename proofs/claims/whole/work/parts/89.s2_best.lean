/-! the chooser -/
/-- only set S's rows of the chooser change -/
def FO (S : Nat) (σ σ' : CSt) : Prop := FH σ σ' ∧ σ'.1 = σ.1 ∧ σ'.2.1 = σ.2.1 ∧ ∀ s, s ≠ S → σ'.2.2.1 4 s = σ.2.2.1 4 s ∧ σ'.2.2.1 5 s = σ.2.2.1 5 s ∧ σ'.2.2.2.1 2 s = σ.2.2.2.1 2 s ∧ σ'.2.2.2.1 3 s = σ.2.2.2.1 3 s
theorem FO.refl (S : Nat) (σ : CSt) : FO S σ σ := ⟨FH.refl σ, rfl, rfl, fun _ _ => ⟨rfl, rfl, rfl, rfl⟩⟩
theorem FO.trans {S : Nat} {a b c : CSt} (h : FO S a b) (g : FO S b c) : FO S a c := ⟨h.1.trans g.1, g.2.1.trans h.2.1, g.2.2.1.trans h.2.2.1, fun s hs => ⟨(g.2.2.2 s hs).1.trans (h.2.2.2 s hs).1, (g.2.2.2 s hs).2.1.trans (h.2.2.2 s hs).2.1, (g.2.2.2 s hs).2.2.1.trans (h.2.2.2 s hs).2.2.1, (g.2.2.2 s hs).2.2.2.trans (h.2.2.2 s hs).2.2.2⟩⟩
theorem Ask_FO {S up dn : Nat} {sl : Int32} {σ σ' : CSt} (h : FO S σ σ') (hA : Ask up dn sl σ) : Ask up dn sl σ' := by
  unfold Ask
  rw [h.2.1, h.2.2.1]
  exact hA
theorem Hd_FO {q : Qd} {S s : Nat} {σ σ' : CSt} {e : Ent} (h : FO S σ σ') (hs : s ≠ S) (hH : Hd q σ s e) : Hd q σ' s e := by
  unfold Hd
  obtain ⟨h1, h2, h3, h4⟩ := h.2.2.2 s hs
  rw [h1, h2, h3, h4]
  exact hH
theorem Hl_FO {q : Qd} {S s up dn : Nat} {sl : Int32} {σ σ' : CSt} {L : List Ent} (h : FO S σ σ') (hs : s ≠ S) (hH : Hl q up dn sl σ s L) : Hl q up dn sl σ' s L := by
  rcases hH with ⟨h1, h2⟩ | ⟨e, h1, h2⟩
  · exact Or.inl ⟨h1, by rw [(h.2.2.2 s hs).1]; exact h2⟩
  · exact Or.inr ⟨e, Hd_FO h hs h1, h2⟩
theorem nar_io (b : Bool) : vp_nar .boolean (if b = true then 1 else 0) = (if b = true then 1 else 0) := by
  cases b <;> rfl
def putE (q : Qd) (σ : CSt) (S : Nat) (e : Ent) : CSt := cA (cA (cB (cB σ 2 S (lN (eA e))) 3 S (lN (eB e))) 4 S (nI (eC e))) 5 S (if ioB q (eK e) (eL e) (S - eL e) = true then 1 else 0)
theorem putE_FO (q : Qd) (σ : CSt) (S : Nat) (e : Ent) : FO S σ (putE q σ S e) := by
  unfold putE
  refine ⟨⟨fun _ _ => rfl, fun k h => ?_, fun k h => ?_, rfl⟩, rfl, rfl, fun s hs => ⟨?_, ?_, ?_, ?_⟩⟩
  · rw [cA_3, if_neg (by omega), cA_3, if_neg (by omega), cB_3, cB_3]
  · rw [cA_4, cA_4, cB_4, if_neg (by omega), cB_4, if_neg (by omega)]
  · rw [cA_3, if_neg (by omega), cA_3, if_pos rfl, upd_at, if_neg hs]; rfl
  · rw [cA_3, if_pos rfl, upd_at, if_neg hs]; rfl
  · rw [cA_4, cA_4, cB_4, if_neg (by omega), cB_4, if_pos rfl, updL_at, if_neg hs]
  · rw [cA_4, cA_4, cB_4, if_pos rfl, updL_at, if_neg hs]; rfl
theorem putE_Hd (q : Qd) (σ : CSt) (S : Nat) (e : Ent) : Hd q (putE q σ S e) S e := by
  unfold putE
  refine ⟨?_, ?_, ?_, ?_⟩
  · rw [cA_3, if_neg (by omega), cA_3, if_pos rfl, upd_at, if_pos rfl]
  · rw [cA_4, cA_4, cB_4, if_neg (by omega), cB_4, if_pos rfl, updL_at, if_pos rfl]
  · rw [cA_4, cA_4, cB_4, if_pos rfl, updL_at, if_pos rfl]
  · rw [cA_3, if_pos rfl, upd_at, if_pos rfl]
theorem fl_bd {q : Qd} (hq : WfQ q) {S : Nat} (hS : S < 16) {e : Ent} (h : e ∈ fl q S) : eC e < 2 ^ 31 ∧ eA e < 2 ^ 26 ∧ eB e < 2 ^ 26 := by
  have := fl_lt hq hS h
  omega
theorem fjn_io (q : Qd) (S k l : Nat) (a b : Ent) : ioB q (eK (fjn q S k l a b)) (eL (fjn q S k l a b)) (S - eL (fjn q S k l a b)) = ioB q (nI k) l (S - l) := by rw [fjn_K, fjn_L]
theorem offerJoin_ok {N : Nat} (hN : 6 ≤ N) {q : Qd} {σ : CSt} (hq : WfQ q) (hC : CQd q σ) (hm : Measured q σ) {up dn : Nat} {sl : Int32} (hA : Ask up dn sl σ) (hsl : sl = 0 ∨ sl = 1 ∨ sl = -1) (hu : up < 2 ^ 26) (hd : dn < 2 ^ 26) {S l k : Nat} {a b : Ent} (hS : S < 16) (hk : okB q S l = true) (hk3 : k < 3) (ha : a ∈ PE q l) (hb : b ∈ PE q (S - l)) (ga : Hd q σ l a) (gb : Hd q σ (S - l) b) {L : List Ent} (hL : ∀ e, e ∈ L → e ∈ fl q S) (gL : Hl q up dn sl σ S L) : ∃ σ', fH_offerJoin N σ (nI k) (nI l) (nI (S - l)) (lb q l (S - l)) = some σ' ∧ FO S σ σ' ∧ Hl q up dn sl σ' S (L ++ [fjn q S k l a b]) := by
  have hs := (okB_ok hk).1
  have hl := sub1_ok hs
  have hbs := b_sub hS hs
  obtain ⟨p, hp, hlb, hin, hof⟩ := order_C (N := N) (k := k) hq hC hS hk
  have hf := endF_le q S k l
  have hfm := fjn_mem hS hk hk3 ha hb
  have bf := fl_bd hq hS hfm
  unfold fH_offerJoin
  rw [hlb, hin, bs, b_or l (by omega) (S - l) (by omega), hbs.2.2.2.2.1, hof, bs]
  simp only [chk_nI (show l < 16 by omega) (show 16 < 2 ^ 31 by omega), chk_nI (show S - l < 16 by omega) (show 16 < 2 ^ 31 by omega), chk_nI hS (show 16 < 2 ^ 31 by omega), nI_cl (show l < 2 ^ 31 by omega), nI_cl (show S - l < 2 ^ 31 by omega), nI_cl (show S < 2 ^ 31 by omega), ga.1, ga.2.1, ga.2.2.1, gb.1, gb.2.1, gb.2.2.1]
  rw [joinA_C hq hm (by omega) (by omega) hbs.2.2.2.1 hk3, bs, sizeA_C hm hS, bs, joinB_C hq hm (by omega) (by omega) hbs.2.2.2.1 hk3, bs, sizeB_C hm hS, bs, joinedCode_ok N hS hs hk3 (eC_lt hq (by omega) ha) (eC_lt hq (by omega) hb), bs]
  rw [nI_l (by omega), lN_mul, lN_mul, lN_add, lN_add, lN_add, lN_add, lN_add, lN_add]
  rw [← (fjn_A q S k l a b).1, ← (fjn_A q S k l a b).2, ← fjn_C q S k l a b]
  have hJ : fH_offerJoin_J155 N σ (nI S) (if ioB q (nI k) l (S - l) = true then 1 else 0) (lN (eA (fjn q S k l a b))) (lN (eB (fjn q S k l a b))) (nI (eC (fjn q S k l a b))) = some (putE q σ S (fjn q S k l a b)) := by
    unfold fH_offerJoin_J155 putE
    rw [chk_nI hS (by omega), chk_nI hS (by omega), chk_nI hS (by omega), chk_nI hS (by omega), nI_cl (by omega), nar_io, fjn_io]
  rw [hJ]
  have hnew : ∀ f, f ∈ L ++ [fjn q S k l a b] → f ∈ L ∨ f = fjn q S k l a b := fun f h => by simpa using h
  rcases gL with ⟨g1, g2⟩ | ⟨e, g1, g2⟩
  · rw [if_pos g2]
    refine ⟨_, rfl, putE_FO _ _ _ _, Or.inr ⟨fjn q S k l a b, putE_Hd _ _ _ _, by simp, ?_⟩⟩
    intro f hf
    rcases hnew f hf with h | h
    · rw [g1] at h; exact absurd h List.not_mem_nil
    · rw [h]; exact leE_refl _ _ _ _
  · have be := fl_bd hq hS (hL e g2.1)
    rw [if_neg (show ¬ σ.2.2.1 4 S = -1 by rw [g1.1]; exact nI_ne_m1 be.1)]
    rcases isBetter_ok (N := N) hA hsl hS hu hd g1 be bf with ⟨h1, h2⟩ | ⟨h1, h2⟩
    · rw [h1, bs, if_neg n10]
      refine ⟨_, rfl, putE_FO _ _ _ _, Or.inr ⟨fjn q S k l a b, putE_Hd _ _ _ _, by simp, ?_⟩⟩
      intro f hf
      rcases hnew f hf with h | h
      · exact leE_trans (leE_lt h2) (g2.2 f h)
      · rw [h]; exact leE_refl _ _ _ _
    · rw [h1, bs, if_pos rfl]
      refine ⟨σ, rfl, FO.refl S σ, Or.inr ⟨e, g1, List.mem_append_left _ g2.1, ?_⟩⟩
      intro f hf
      rcases hnew f hf with h | h
      · exact g2.2 f h
      · rw [h]; exact leE_of h2
/-- final entries out of raw ones -/
def fx (q : Qd) (S : Nat) (L : List Ent) : List Ent := if S = 2 ^ qT q - 1 then L.map (fin q S) else L
theorem fx_fl (q : Qd) (S : Nat) : fx q S (PE q S) = fl q S := rfl
theorem fx_app (q : Qd) (S : Nat) (L M : List Ent) : fx q S (L ++ M) = fx q S L ++ fx q S M := by
  unfold fx
  split
  · rw [List.map_append]
  · rfl
theorem fx_nil (q : Qd) (S : Nat) : fx q S [] = [] := by unfold fx; split <;> rfl
theorem fx_blk {q : Qd} {S l : Nat} {f : Ent} : f ∈ fx q S (blk q (PE q) S l) ↔ okB q S l = true ∧ ∃ k, k < 3 ∧ ∃ a, a ∈ PE q l ∧ ∃ b, b ∈ PE q (S - l) ∧ f = fjn q S k l a b := by
  unfold fx fjn
  by_cases g : S = 2 ^ qT q - 1
  · simp only [if_pos g, List.mem_map, mem_blk]
    constructor
    · rintro ⟨e, ⟨h1, k, h2, a, ha, b, hb, rfl⟩, rfl⟩
      exact ⟨h1, k, h2, a, ha, b, hb, rfl⟩
    · rintro ⟨h1, k, h2, a, ha, b, hb, rfl⟩
      exact ⟨_, ⟨h1, k, h2, a, ha, b, hb, rfl⟩, rfl⟩
  · simp only [if_neg g, mem_blk]
def Xl (q : Qd) (S l : Nat) : List Ent := fx q S (rl q S (qT q) ++ jl q (PE q) S l)
theorem Xl_succ (q : Qd) (S l : Nat) : Xl q S (l + 1) = Xl q S l ++ fx q S (blk q (PE q) S l) := by
  unfold Xl
  rw [← fx_app, List.append_assoc]
  rfl
theorem Xl_fl {q : Qd} {S : Nat} (hS : S < 16) : Xl q S S = fl q S := by
  unfold Xl
  rw [← PE_eq q hS]
  rfl
theorem Xl_sub {q : Qd} {S : Nat} (hS : S < 16) : ∀ (m l : Nat), l + m = S → ∀ e, e ∈ Xl q S l → e ∈ fl q S := by
  intro m
  induction m with
  | zero =>
    intro l hl e he
    rw [show l = S by omega, Xl_fl hS] at he
    exact he
  | succ m ih =>
    intro l hl e he
    exact ih (l + 1) (by omega) e (by rw [Xl_succ]; exact List.mem_append_left _ he)
theorem Hl_none {q : Qd} {S l up dn : Nat} {sl : Int32} {σ : CSt} (h : Hl q up dn sl σ S (Xl q S l)) (hn : fx q S (blk q (PE q) S l) = []) : Hl q up dn sl σ S (Xl q S (l + 1)) := by
  rw [Xl_succ, hn, List.append_nil]
  exact h
theorem blk_none {q : Qd} {S l : Nat} (h : ¬ (okB q S l = true ∧ PE q l ≠ [] ∧ PE q (S - l) ≠ [])) : fx q S (blk q (PE q) S l) = [] := by
  cases hb : fx q S (blk q (PE q) S l) with
  | nil => rfl
  | cons f L =>
    exfalso
    have hf : f ∈ fx q S (blk q (PE q) S l) := by rw [hb]; exact List.mem_cons_self
    obtain ⟨h1, k, -, a, ha, b, hb', -⟩ := fx_blk.mp hf
    exact h ⟨h1, List.ne_nil_of_mem ha, List.ne_nil_of_mem hb'⟩
/-- what stands before set S is worked -/
def Done (q : Qd) (up dn : Nat) (sl : Int32) (σ : CSt) (S : Nat) : Prop := (∀ s, 0 < s → s < S → Hl q up dn sl σ s (fl q s)) ∧ ∀ s, S < s → s < 2 ^ qT q → Hl q up dn sl σ s (Xl q s 1)
theorem joins_loop {N : Nat} (hN : 6 ≤ N) {q : Qd} (hq : WfQ q) {up dn : Nat} {sl : Int32} (hsl : sl = 0 ∨ sl = 1 ∨ sl = -1) (hu : up < 2 ^ 26) (hd : dn < 2 ^ 26) {S : Nat} (hS : S < 2 ^ qT q) : ∀ (n m l : Nat) (σ : CSt), l + m = S → 0 < l → m < n → CQd q σ → Measured q σ → Ask up dn sl σ → (∀ s, 0 < s → s < S → Hl q up dn sl σ s (fl q s)) → Hl q up dn sl σ S (Xl q S l) → ∃ σ', fH_offerJoins_L2 N n σ (nI S) (nI l) = some σ' ∧ FO S σ σ' ∧ Hl q up dn sl σ' S (fl q S) := by
  have hT := hq.1
  have h16 : 2 ^ qT q ≤ 16 := Nat.pow_le_pow_right (n := 2) (by omega) hT
  intro n
  induction n with
  | zero => intro m l σ _ _ h; omega
  | succ n ih =>
    intro m l σ hm h0 hn hC hM hA hB hX
    rw [fH_offerJoins_L2]
    cases m with
    | zero =>
      have e : l = S := by omega
      subst e
      rw [if_pos (nI_le (by omega) (by omega))]
      rw [Xl_fl (by omega)] at hX
      exact ⟨σ, rfl, FO.refl l σ, hX⟩
    | succ m =>
      have hlS : l < S := by omega
      have ha16 := b_and_lt l (by omega) S (by omega)
      rw [if_neg (nI_ge hlS (by omega)), b_and l (by omega) S (by omega)]
      by_cases g : l &&& S = l
      · have hs := sub1_t h0 hlS g
        have hb := b_sub (show S < 16 by omega) hs
        rw [if_pos (by rw [g]), b_xor S (by omega) l (by omega), hb.2.2.2.2.2.1, leastC hN hq hC (by omega) (by omega) hb.2.2.2.1, bs]
        unfold fH_offerJoins_J31
        by_cases g2 : lb q l (S - l) = -1
        · rw [if_pos g2, nI_1]
          exact ih m (l + 1) σ (by omega) (by omega) (by omega) hC hM hA hB (Hl_none hX (blk_none (fun h => (okB_ok h.1).2 g2)))
        · have hok := okB_t hs g2
          have eA : fl q l = PE q l := if_neg (by omega)
          have eB : fl q (S - l) = PE q (S - l) := if_neg (by omega)
          have HA := hB l h0 hlS
          have HB := hB (S - l) (by omega) (by omega)
          rw [eA] at HA
          rw [eB] at HB
          rw [if_neg g2, chk_nI (by omega) (by omega), nI_cl (by omega)]
          rcases HA with ⟨a1, a2⟩ | ⟨a, a1, a2⟩
          · rw [if_pos a2, nI_1]
            exact ih m (l + 1) σ (by omega) (by omega) (by omega) hC hM hA hB (Hl_none hX (blk_none (fun h => h.2.1 a1)))
          · rw [if_neg (show ¬ σ.2.2.1 4 l = -1 by rw [a1.1]; exact nI_ne_m1 (by have := eC_lt7 hq (show l < 16 by omega) a2.1; omega)), chk_nI (by omega) (by omega), nI_cl (by omega)]
            rcases HB with ⟨b1, b2⟩ | ⟨b, b1, b2⟩
            · rw [if_pos b2, nI_1]
              exact ih m (l + 1) σ (by omega) (by omega) (by omega) hC hM hA hB (Hl_none hX (blk_none (fun h => h.2.2 b1)))
            · rw [if_neg (show ¬ σ.2.2.1 4 (S - l) = -1 by rw [b1.1]; exact nI_ne_m1 (by have := eC_lt7 hq (show S - l < 16 by omega) b2.1; omega))]
              have hsub := Xl_sub (q := q) (show S < 16 by omega) (m + 1) l (by omega)
              have fm : ∀ k, k < 3 → fjn q S k l a b ∈ fl q S := fun k hk => fjn_mem (by omega) hok hk a2.1 b2.1
              obtain ⟨σ1, p1, p2, p3⟩ := offerJoin_ok (N := N) hN hq hC hM hA hsl hu hd (k := 0) (show S < 16 by omega) hok (by omega) a2.1 b2.1 a1 b1 hsub hX
              have C1 := CQd_FH p2.1 hC
              have M1 := Meas_FH p2.1 hM
              have hsub1 : ∀ e, e ∈ Xl q S l ++ [fjn q S 0 l a b] → e ∈ fl q S := by
                intro e he
                rcases List.mem_append.mp he with h | h
                · exact hsub e h
                · rw [List.mem_singleton.mp h]; exact fm 0 (by omega)
              obtain ⟨σ2, r1, r2, r3⟩ := offerJoin_ok (N := N) hN hq C1 M1 (Ask_FO p2 hA) hsl hu hd (k := 1) (show S < 16 by omega) hok (by omega) a2.1 b2.1 (Hd_FO p2 (by omega) a1) (Hd_FO p2 (by omega) b1) hsub1 p3
              have f12 := p2.trans r2
              have C2 := CQd_FH f12.1 hC
              have M2 := Meas_FH f12.1 hM
              have hsub2 : ∀ e, e ∈ Xl q S l ++ [fjn q S 0 l a b] ++ [fjn q S 1 l a b] → e ∈ fl q S := by
                intro e he
                rcases List.mem_append.mp he with h | h
                · exact hsub1 e h
                · rw [List.mem_singleton.mp h]; exact fm 1 (by omega)
              obtain ⟨σ3, t1, t2, t3⟩ := offerJoin_ok (N := N) hN hq C2 M2 (Ask_FO f12 hA) hsl hu hd (k := 2) (show S < 16 by omega) hok (by omega) a2.1 b2.1 (Hd_FO f12 (by omega) a1) (Hd_FO f12 (by omega) b1) hsub2 r3
              have f13 := f12.trans t2
              rw [show (0 : Int32) = nI 0 from rfl, p1, bs, show (1 : Int32) = nI 1 from rfl, r1, bs, show (2 : Int32) = nI 2 from rfl, t1, bs]
              show ∃ σ', fH_offerJoins_L2 N n σ3 (nI S) (nI l + 1) = some σ' ∧ _
              rw [nI_1]
              have hX3 : Hl q up dn sl σ3 S (Xl q S (l + 1)) := by
                rw [Xl_succ]
                rcases t3 with ⟨z1, -⟩ | ⟨e, z1, z2, z3⟩
                · exfalso
                  have : fjn q S 2 l a b ∈ ([] : List Ent) := by rw [← z1]; simp
                  exact absurd this List.not_mem_nil
                · refine Or.inr ⟨e, z1, ?_, ?_⟩
                  · have hk : ∀ k, k < 3 → fjn q S k l a b ∈ fx q S (blk q (PE q) S l) := fun k hk => fx_blk.mpr ⟨hok, k, hk, a, a2.1, b, b2.1, rfl⟩
                    simp only [List.mem_append, List.mem_singleton] at z2
                    rcases z2 with ((h | h) | h) | h
                    · exact List.mem_append_left _ h
                    · rw [h]; exact List.mem_append_right _ (hk 0 (by omega))
                    · rw [h]; exact List.mem_append_right _ (hk 1 (by omega))
                    · rw [h]; exact List.mem_append_right _ (hk 2 (by omega))
                  · intro f hf
                    rcases List.mem_append.mp hf with h | h
                    · exact z3 f (by simp [h])
                    · obtain ⟨-, k, hk3, a', ha', b', hb', rfl⟩ := fx_blk.mp h
                      have hmn := fjn_mono (q := q) (S := S) (k := k) (l := l) (a2.2 a' ha') (b2.2 b' hb')
                      refine leE_trans (z3 _ ?_) hmn
                      rcases (show k = 0 ∨ k = 1 ∨ k = 2 by omega) with rfl | rfl | rfl <;> simp
              obtain ⟨σ4, u1, u2, u3⟩ := ih m (l + 1) σ3 (by omega) (by omega) (by omega) (CQd_FH f13.1 hC) (Meas_FH f13.1 hM) (Ask_FO f13 hA) (fun s s0 s1 => Hl_FO f13 (by omega) (hB s s0 s1)) hX3
              exact ⟨σ4, u1, f13.trans u2, u3⟩
      · rw [if_neg (fun h => g ((nI_eq (by omega) (by omega)).mp h))]
        unfold fH_offerJoins_J31
        rw [if_pos rfl, nI_1]
        exact ih m (l + 1) σ (by omega) (by omega) (by omega) hC hM hA hB (Hl_none hX (blk_none (fun h => g (sub1_ok (okB_ok h.1).1).2.2)))
