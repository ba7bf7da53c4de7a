/-! the class's plans are the reference's entries -/
theorem b_one : ∀ t, t < 4 → ∀ a, a < 4 → ∀ b, b < 4 → a < b → ¬ (2 ^ t / 2 ^ a % 2 = 1 ∧ 2 ^ t / 2 ^ b % 2 = 1) := by decide +kernel
theorem one_ins {q : Qd} (hq : WfQ q) {t : Nat} (ht : t < 4) {p : Nat} (hp : p < qP q) : ¬ ins q (2 ^ t) p := by
  have hT := hq.1
  obtain ⟨b1, b2, -⟩ := hq.2.2.2.2.1 p hp
  exact b_one t ht _ (by omega) _ (by omega) b1
theorem one_p {q : Qd} (hq : WfQ q) {t : Nat} (ht : t < 4) : ∀ p, p ≤ qP q → shP q (2 ^ t) p = 1 ∧ cntP q (2 ^ t) p = 0 ∧ opB q (2 ^ t) p = 0 := by
  intro p
  induction p with
  | zero => exact fun _ => ⟨rfl, rfl, rfl⟩
  | succ p ih =>
    intro hp
    have h := one_ins hq ht (show p < qP q by omega)
    obtain ⟨i1, i2, i3⟩ := ih (by omega)
    refine ⟨?_, ?_, ?_⟩
    · show shP q (2 ^ t) p * (if ins q (2 ^ t) p then _ else 1) = 1
      rw [if_neg h, i1]
    · show cntP q (2 ^ t) p + (if ins q (2 ^ t) p then 1 else 0) = 0
      rw [if_neg h, i2]
    · show (if ins q (2 ^ t) p ∧ _ then (1 : Int32) else opB q (2 ^ t) p) = 0
      rw [if_neg (fun g => h g.1), i3]
theorem one_rows (q : Qd) {t : Nat} (ht : t < 4) : rowsP q (2 ^ t) 4 = qr q t := by
  rcases (show t = 0 ∨ t = 1 ∨ t = 2 ∨ t = 3 by omega) with rfl | rfl | rfl | rfl <;> simp [rowsP]
theorem one_sz {q : Qd} (hq : WfQ q) {t : Nat} (ht : t < 4) : nA q (2 ^ t) = 256 * qr q t ∧ nB q (2 ^ t) = 0 := by
  obtain ⟨h1, h2, h3⟩ := one_p hq ht (qP q) (Nat.le_refl _)
  unfold nA nB sz
  rw [h1, h2, h3, one_rows q ht, if_pos rfl, if_pos rfl]
  omega
def pl (q : Qd) (S : Nat) (e : Ent) : Pl := (nI S, nI (eC e), lN (eA e), lN (eB e), if ioB q (eK e) (eL e) (S - eL e) = true then 1 else 0)
theorem bitC_B : ((List.range 16).all fun S => decide (fJ_bitCount_0f7a4 0 (nI S) = some (nI (bc S)))) = true := by decide +kernel
theorem bitC (N : Nat) {S : Nat} (hS : S < 16) : fJ_bitCount_0f7a4 N (nI S) = some (nI (bc S)) := by
  have g := bitC_B
  simp only [List.all_eq_true, List.mem_range, decide_eq_true_eq] at g
  exact g S hS
theorem fa_or (a b : Nat) : nI a ||| nI b = nI (a ||| b) := by
  apply Int32.toBitVec_inj.1
  show BitVec.ofNat 32 a ||| BitVec.ofNat 32 b = BitVec.ofNat 32 (a ||| b)
  apply BitVec.eq_of_getLsbD_eq
  intro i hi
  simp [hi]
theorem fa_or_sum {a k : Nat} (b : Nat) (h : a < 2 ^ k) : nI (2 ^ k * b) ||| nI a = nI (2 ^ k * b + a) := by rw [fa_or, Nat.two_pow_add_eq_or_of_lt h]
theorem sh8b : ∀ d, d < 8 → ∀ e, e < 8 → d + e < 9 → (((((3 : Int32) * nI d) + ((3 : Int32) * nI e)) &&& 31).toBitVec.smod 32).toNat = 3 * d + 3 * e := by decide +kernel
theorem joinedCode_ok (N : Nat) {S l k a b : Nat} (hS : S < 16) (hs : sub1 S l = true) (hk : k < 3) (ha : a < 8 ^ dg l) (hb : b < 8 ^ dg (S - l)) : fP_joinedCode N (nI k) (nI l) (nI a) (nI (S - l)) (nI b) = some (nI (mkc k l a (S - l) b)) := by
  have hl := sub1_ok hs
  have hbs := b_sub hS hs
  have h4 := bc_le S hS
  have d1 := dg_le l (by omega)
  have d2 := dg_le (S - l) (by omega)
  have d12 : dg l + dg (S - l) ≤ 6 := by unfold dg; omega
  unfold fP_joinedCode
  rw [bitC N (show S - l < 16 by omega), bs, bitC N (show l < 16 by omega), bs, dg_I l (by omega) (by omega), dg_I (S - l) (by omega) (by omega)]
  have e1 : (8 : Nat) ^ dg l = 2 ^ (3 * dg l) := by rw [Nat.pow_mul]
  have e2 : (8 : Nat) ^ dg (S - l) = 2 ^ (3 * dg (S - l)) := by rw [Nat.pow_mul]
  have p1 : 8 ^ dg l ≤ 8 ^ 7 := Nat.pow_le_pow_right (n := 8) (by omega) d1
  have p2 : 8 ^ dg l * 8 ^ dg (S - l) ≤ 8 ^ 6 := by
    rw [← Nat.pow_add]
    exact Nat.pow_le_pow_right (n := 8) (by omega) d12
  have m2 : a * 8 ^ dg (S - l) ≤ 8 ^ dg l * 8 ^ dg (S - l) := Nat.mul_le_mul_right _ (by omega)
  rw [show (4 : Int32) = nI 4 from rfl, nI_add, pk_shlN _ _ (sh8b (dg l) (by omega) (dg (S - l)) (by omega) (by omega)), pk_shlN _ _ (sh8 (dg (S - l)) (by omega))]
  · rw [← e2, Nat.pow_add, ← e1, ← e2]
    have f1 : (4 + k) * (8 ^ dg l * 8 ^ dg (S - l)) = 2 ^ (3 * dg (S - l) + 3 * dg l) * (4 + k) := by rw [Nat.pow_add, ← e1, ← e2, Nat.mul_comm, Nat.mul_comm (8 ^ dg l)]
    have hlt : a * 8 ^ dg (S - l) < 2 ^ (3 * dg (S - l) + 3 * dg l) := by
      rw [Nat.pow_add, ← e1, ← e2, Nat.mul_comm (8 ^ dg (S - l))]
      exact Nat.mul_lt_mul_of_pos_right ha (Nat.pow_pos (by omega))
    rw [f1, fa_or_sum _ hlt, ← f1]
    have f2 : (4 + k) * (8 ^ dg l * 8 ^ dg (S - l)) + a * 8 ^ dg (S - l) = 2 ^ (3 * dg (S - l)) * ((4 + k) * 8 ^ dg l + a) := by
      rw [← e2, ← Nat.mul_assoc, ← Nat.add_mul, Nat.mul_comm]
    rw [f2, fa_or_sum _ (by rw [← e2]; exact hb), ← e2, Nat.mul_comm]
    rfl
  · rw [← e2]
    omega
  · rw [Nat.pow_add, ← e1, ← e2]
    have : (4 + k) * (8 ^ dg l * 8 ^ dg (S - l)) ≤ 6 * (8 ^ dg l * 8 ^ dg (S - l)) := Nat.mul_le_mul_right _ (by omega)
    omega
theorem sizeA_C {N : Nat} {q : Qd} {σ : CSt} (hm : Measured q σ) {S : Nat} (hS : S < 16) : fZ_sizeA N σ (nI S) = some (lN (nA q S)) := by
  unfold fZ_sizeA
  rw [if_neg (nI_pos (by omega)), if_pos (show nI S < (16 : Int32) from nI_lt (b := 16) hS (by omega)), chk_nI hS (by omega), nI_cl (by omega), (hm S hS).1, szA_n]
theorem sizeB_C {N : Nat} {q : Qd} {σ : CSt} (hm : Measured q σ) {S : Nat} (hS : S < 16) : fZ_sizeB N σ (nI S) = some (lN (nB q S)) := by
  unfold fZ_sizeB
  rw [if_neg (nI_pos (by omega)), if_pos (show nI S < (16 : Int32) from nI_lt (b := 16) hS (by omega)), chk_nI hS (by omega), nI_cl (by omega), (hm S hS).2, szB_n]
theorem z256 : ¬ (256 : Int64) = 0 := by decide
theorem joinA_C {N : Nat} {q : Qd} {σ : CSt} (hq : WfQ q) (hm : Measured q σ) {l r k : Nat} (hl : l < 16) (hr : r < 16) (h0 : l &&& r = 0) (hk : k < 3) : fZ_joinA N σ (nI k) (nI l) (nI r) = some (lN (jA q k l r)) := by
  have pA := prodA hq hl hr h0
  have i1 : (nI k = (1 : Int32)) ↔ k = 1 := nI_eq (b := 1) (by omega) (by omega)
  have i0 : (nI k = 0) ↔ k = 0 := nI_eq0 (by omega)
  unfold fZ_joinA fZ_joinA_J58 nz64
  rw [if_neg (nI_pos (by omega)), if_neg (show ¬ (16 : Int32) ≤ nI l from nI_ge (b := 16) hl (by omega)), if_neg (nI_pos (by omega)), if_pos (show nI r < (16 : Int32) from nI_lt (b := 16) hr (by omega))]
  simp only [i0, i1, if_neg z256, chk_nI hl (show 16 < 2 ^ 31 by omega), chk_nI hr (show 16 < 2 ^ 31 by omega), nI_cl (show l < 2 ^ 31 by omega), nI_cl (show r < 2 ^ 31 by omega), (hm l hl).1, (hm r hr).1, szA_n]
  unfold jA
  rcases (show k = 0 ∨ k = 1 ∨ k = 2 by omega) with rfl | rfl | rfl
  · rw [if_pos rfl, if_pos rfl, lN_mul, l256, pk_lDiv (by omega) (by omega) (by omega)]
  · rw [if_neg (show ¬ 1 = 0 by omega), if_pos rfl, if_neg (show ¬ 1 = 0 by omega), if_pos rfl, lN_add, l2, lN_mul]
  · rw [if_neg (show ¬ 2 = 0 by omega), if_neg (show ¬ 2 = 1 by omega), if_neg (show ¬ 2 = 0 by omega), if_neg (show ¬ 2 = 1 by omega), lN_add, l3, lN_mul]
theorem joinB_C {N : Nat} {q : Qd} {σ : CSt} (hq : WfQ q) (hm : Measured q σ) {l r k : Nat} (hl : l < 16) (hr : r < 16) (h0 : l &&& r = 0) (hk : k < 3) : fZ_joinB N σ (nI k) (nI l) (nI r) = some (lN (jB q k l r)) := by
  have pB := prodB hq hl hr h0
  have i1 : (nI k = (1 : Int32)) ↔ k = 1 := nI_eq (b := 1) (by omega) (by omega)
  have i0 : (nI k = 0) ↔ k = 0 := nI_eq0 (by omega)
  unfold fZ_joinB fZ_joinB_J72 nz64
  rw [if_neg (nI_pos (by omega)), if_neg (show ¬ (16 : Int32) ≤ nI l from nI_ge (b := 16) hl (by omega)), if_neg (nI_pos (by omega)), if_pos (show nI r < (16 : Int32) from nI_lt (b := 16) hr (by omega))]
  simp only [i0, i1, if_neg z256, chk_nI hl (show 16 < 2 ^ 31 by omega), chk_nI hr (show 16 < 2 ^ 31 by omega), nI_cl (show l < 2 ^ 31 by omega), nI_cl (show r < 2 ^ 31 by omega), (hm l hl).1, (hm r hr).1, (hm l hl).2, (hm r hr).2, szA_n, szB_n]
  unfold jB
  rcases (show k = 0 ∨ k = 1 ∨ k = 2 by omega) with rfl | rfl | rfl
  · rw [if_pos rfl, if_pos rfl, lN_mul, lN_mul, lN_add, l256, pk_lDiv (by omega) (by omega) (by omega)]
  · rw [if_neg (show ¬ 1 = 0 by omega), if_pos rfl, if_neg (show ¬ 1 = 0 by omega), if_pos rfl, lN_add, l2, lN_mul]
  · rw [if_neg (show ¬ 2 = 0 by omega), if_neg (show ¬ 2 = 1 by omega), if_neg (show ¬ 2 = 0 by omega), if_neg (show ¬ 2 = 1 by omega), lN_add, l3, lN_mul]
/-- the final entry of a read -/
def frd (q : Qd) (t : Nat) : Ent := if 2 ^ t = 2 ^ qT q - 1 then fin q (2 ^ t) (rd q t) else rd q t
theorem ioB_rd (q : Qd) (l r : Nat) : ¬ ioB q (-1) l r = true := by
  intro h
  unfold ioB at h
  rw [Bool.and_eq_true] at h
  exact absurd (of_decide_eq_true h.1) (show ¬ (-1 : Int32) = 2 by decide)
theorem frd_mem {q : Qd} (hq : WfQ q) {t : Nat} (ht : t < qT q) : frd q t ∈ fl q (2 ^ t) := by
  have hT := hq.1
  have hm : rd q t ∈ PE q (2 ^ t) := (mem_PE (b_pow_lt t (by omega))).mpr (Or.inl ⟨t, ht, rfl, rfl⟩)
  unfold frd fl
  by_cases g : 2 ^ t = 2 ^ qT q - 1
  · rw [if_pos g, if_pos g]
    exact List.mem_map.mpr ⟨_, hm, rfl⟩
  · rw [if_neg g, if_neg g]
    exact hm
theorem frd_K (q : Qd) (t : Nat) : eK (frd q t) = -1 := by
  unfold frd
  split
  · rw [fin_K]; rfl
  · rfl
theorem frd_C (q : Qd) (t : Nat) : eC (frd q t) = t := by
  unfold frd
  split
  · rw [fin_C]; rfl
  · rfl
theorem readA_C {N : Nat} {q : Qd} {σ : CSt} (hq : WfQ q) (hC : CQd q σ) (hm : Measured q σ) {t : Nat} (ht : t < qT q) : fZ_readA N σ (nI (2 ^ t)) = some (lN (eA (frd q t))) ∧ eB (frd q t) = 0 := by
  have hT := hq.1
  have h16 := b_pow_lt t (by omega)
  obtain ⟨z1, z2⟩ := one_sz hq (show t < 4 by omega)
  have hr := hq.2.2.1 t
  unfold fZ_readA
  rw [sizeA_C hm h16, bs, z1]
  rcases orderFactor_ok (N := N) hq hC h16 0 with ⟨h, h1, h2, -⟩ | ⟨h, h1⟩
  · rw [h, bs]
    have e : frd q t = (t, 0, -1, 256 * qr q t + 3 * nA q (2 ^ t), 0 + 3 * nB q (2 ^ t)) := by
      unfold frd
      rw [if_pos h1]
      exact if_neg (fun g => g.elim h2 (fun g => ioB_rd q _ _ g))
    rw [e, show ((1 : Int32) + 3).toInt64 = lN 4 by decide, lN_mul]
    show some (lN (256 * qr q t * 4)) = some (lN (256 * qr q t + 3 * nA q (2 ^ t))) ∧ 0 + 3 * nB q (2 ^ t) = 0
    rw [z1, z2, show 256 * qr q t * 4 = 256 * qr q t + 3 * (256 * qr q t) by omega]
    exact ⟨rfl, rfl⟩
  · rw [h, bs]
    have e : frd q t = rd q t := by
      unfold frd
      by_cases g : 2 ^ t = 2 ^ qT q - 1
      · rw [if_pos g]
        by_cases g2 : qot q = -1
        · exact if_pos (Or.inl g2)
        · exact absurd ⟨g, g2, rfl⟩ h1
      · exact if_neg g
    rw [e, show ((1 : Int32) + 0).toInt64 = lN 1 by decide, lN_mul, Nat.mul_one]
    exact ⟨rfl, rfl⟩
theorem reading_C {N : Nat} {q : Qd} {σ : CSt} (hq : WfQ q) (hC : CQd q σ) (hm : Measured q σ) {t : Nat} (ht : t < qT q) : fZ_reading N σ (nI t) = some (some (pl q (2 ^ t) (frd q t)), σ) := by
  have hT := hq.1
  obtain ⟨h1, h2⟩ := readA_C (N := N) hq hC hm ht
  unfold fZ_reading
  rw [b_shl t (by omega), h1, bs]
  unfold bt pl
  rw [if_pos (Or.inl rfl), frd_K, frd_C, h2, if_neg (ioB_rd q _ _)]
  rfl
/-- the final entry of a join -/
def fjn (q : Qd) (S k l : Nat) (a b : Ent) : Ent := if S = 2 ^ qT q - 1 then fin q S (jn q k l (S - l) a b) else jn q k l (S - l) a b
theorem fjn_mem {q : Qd} {S k l : Nat} {a b : Ent} (hS : S < 16) (hk : okB q S l = true) (hk3 : k < 3) (ha : a ∈ PE q l) (hb : b ∈ PE q (S - l)) : fjn q S k l a b ∈ fl q S := by
  have hm : jn q k l (S - l) a b ∈ PE q S := (mem_PE hS).mpr (Or.inr ⟨l, hk, k, hk3, a, ha, b, hb, rfl⟩)
  unfold fjn fl
  by_cases g : S = 2 ^ qT q - 1
  · rw [if_pos g, if_pos g]
    exact List.mem_map.mpr ⟨_, hm, rfl⟩
  · rw [if_neg g, if_neg g]
    exact hm
theorem fjn_K (q : Qd) (S k l : Nat) (a b : Ent) : eK (fjn q S k l a b) = nI k := by
  unfold fjn
  split
  · rw [fin_K]; rfl
  · rfl
theorem fjn_L (q : Qd) (S k l : Nat) (a b : Ent) : eL (fjn q S k l a b) = l := by
  unfold fjn
  split
  · rw [fin_L]; rfl
  · rfl
theorem fjn_C (q : Qd) (S k l : Nat) (a b : Ent) : eC (fjn q S k l a b) = mkc k l (eC a) (S - l) (eC b) := by
  unfold fjn
  split
  · rw [fin_C]; rfl
  · rfl
/-- what is paid at the end, in parts of the size -/
def endF (q : Qd) (S k l : Nat) : Nat := if S = 2 ^ qT q - 1 ∧ qot q ≠ -1 ∧ ¬ ioB q (nI k) l (S - l) = true then 3 else 0
theorem fjn_A (q : Qd) (S k l : Nat) (a b : Ent) : eA (fjn q S k l a b) = eA a + eA b + jA q k l (S - l) + endF q S k l * nA q S ∧ eB (fjn q S k l a b) = eB a + eB b + jB q k l (S - l) + endF q S k l * nB q S := by
  unfold fjn endF
  by_cases g : S = 2 ^ qT q - 1
  · rw [if_pos g]
    unfold fin
    by_cases g2 : qot q = -1 ∨ ioB q (eK (jn q k l (S - l) a b)) (eL (jn q k l (S - l) a b)) (S - eL (jn q k l (S - l) a b)) = true
    · rw [if_pos g2, if_neg (fun h => g2.elim h.2.1 h.2.2)]
      simp only [Nat.zero_mul, Nat.add_zero]
      exact ⟨rfl, rfl⟩
    · rw [if_neg g2, if_pos ⟨g, fun h => g2 (Or.inl h), fun h => g2 (Or.inr h)⟩]
      exact ⟨rfl, rfl⟩
  · rw [if_neg g, if_neg (fun h => g h.1)]
    simp only [Nat.zero_mul, Nat.add_zero]
    exact ⟨rfl, rfl⟩
theorem order_C {N : Nat} {q : Qd} {σ : CSt} (hq : WfQ q) (hC : CQd q σ) {S l k : Nat} (hS : S < 16) (hk : okB q S l = true) : ∃ p, p < qP q ∧ lb q l (S - l) = nI p ∧ fQ_isInOrder N σ (nI k) (nI p) = some (if ioB q (nI k) l (S - l) = true then 1 else 0) ∧ fQ_orderFactor N σ (nI S) (if ioB q (nI k) l (S - l) = true then 1 else 0) = some (nI (endF q S k l)) := by
  have hP := hq.2.1
  obtain ⟨hs, hlb⟩ := okB_ok hk
  rcases lb_cases (q := q) l (S - l) with ⟨h, -⟩ | ⟨p, hp, hp1, -⟩
  · exact absurd h hlb
  have hio := ioB_iff (q := q) (k := nI k) (show p < 2 ^ 31 by omega) hp1
  refine ⟨p, hp, hp1, ?_, ?_⟩
  · rcases inOrder_C (N := N) hq hC hp (nI k) with ⟨h, h1⟩ | ⟨h, h1⟩
    · rw [h, if_pos (hio.mpr h1)]
    · rw [h, if_neg (fun g => h1 (hio.mp g))]
  · unfold endF
    rcases orderFactor_ok (N := N) hq hC hS (if ioB q (nI k) l (S - l) = true then 1 else 0) with ⟨h, h1, h2, h3⟩ | ⟨h, h1⟩
    · rw [h, if_pos ⟨h1, h2, fun g => by rw [if_pos g] at h3; exact n10 h3⟩]
      rfl
    · rw [h, if_neg (fun g => h1 ⟨g.1, g.2.1, if_neg g.2.2⟩)]
      rfl
theorem endF_le (q : Qd) (S k l : Nat) : endF q S k l ≤ 3 := by unfold endF; split <;> omega
theorem joining_C {N : Nat} (hN : 6 ≤ N) {q : Qd} {σ : CSt} (hq : WfQ q) (hC : CQd q σ) (hm : Measured q σ) {S l k : Nat} {a b : Ent} (hS : S < 16) (hk : okB q S l = true) (hk3 : k < 3) (ha : a ∈ PE q l) (hb : b ∈ PE q (S - l)) : fZ_joining N σ (nI k) (some (pl q l a)) (some (pl q (S - l) b)) = some (some (pl q S (fjn q S k l a b)), σ) := by
  have hs := (okB_ok hk).1
  have hl := sub1_ok hs
  have hbs := b_sub hS hs
  obtain ⟨p, hp, hlb, hin, hof⟩ := order_C (N := N) (k := k) hq hC hS hk
  unfold fZ_joining on pl
  show (fQ_leastBetween N σ (nI l) (nI (S - l))).bind _ = _
  rw [leastC hN hq hC (by omega) (by omega) hbs.2.2.2.1, bs, hlb]
  show (fQ_isInOrder N σ (nI k) (nI p)).bind _ = _
  rw [hin, bs, b_or l (by omega) (S - l) (by omega), hbs.2.2.2.2.1, hof, bs]
  show (fZ_joinA N σ (nI k) (nI l) (nI (S - l))).bind _ = _
  rw [joinA_C hq hm (by omega) (by omega) hbs.2.2.2.1 hk3, bs, sizeA_C hm hS, bs, joinB_C hq hm (by omega) (by omega) hbs.2.2.2.1 hk3, bs, sizeB_C hm hS, bs, joinedCode_ok N hS hs hk3 (eC_lt hq (by omega) ha) (eC_lt hq (by omega) hb), bs]
  have hf := endF_le q S k l
  unfold bt
  rw [nI_l (by omega), lN_mul, lN_mul, lN_add, lN_add, lN_add, lN_add, lN_add, lN_add, if_pos (by split; exact Or.inr rfl; exact Or.inl rfl)]
  rw [fjn_K, fjn_L, fjn_C, (fjn_A q S k l a b).1, (fjn_A q S k l a b).2]
