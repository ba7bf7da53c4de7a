/-! how many bits -/
def pcf : Nat → Nat → Nat
  | 0, _ => 0
  | k + 1, n => n % 2 + pcf k (n / 2)
theorem pc_step : ∀ (k n : Nat), n < 2 ^ k → 0 < n → pcf k (n &&& (n - 1)) + 1 = pcf k n := by
  intro k
  induction k with
  | zero => intro n h1 h2; omega
  | succ k ih =>
    intro n h1 h2
    show (n &&& (n - 1)) % 2 + pcf k ((n &&& (n - 1)) / 2) + 1 = n % 2 + pcf k (n / 2)
    have e1 : (n &&& (n - 1)) / 2 = n / 2 &&& (n - 1) / 2 := by
      have := Nat.and_div_two_pow (a := n) (b := n - 1) (n := 1)
      simpa using this
    have e2 : (n &&& (n - 1)) % 2 = n % 2 &&& (n - 1) % 2 := by
      have := Nat.and_mod_two_pow (a := n) (b := n - 1) (n := 1)
      simpa using this
    rw [e1, e2]
    rcases Nat.mod_two_eq_zero_or_one n with h | h
    · have h3 : (n - 1) / 2 = n / 2 - 1 := by omega
      rw [h, h3, Nat.zero_and]
      have := ih (n / 2) (by rw [Nat.pow_succ] at h1; omega) (by omega)
      omega
    · have h3 : (n - 1) / 2 = n / 2 := by omega
      have h4 : (n - 1) % 2 = 0 := by omega
      rw [h, h3, h4, Nat.and_self, Nat.and_zero]
      omega
theorem pc_0 : ∀ k, pcf k 0 = 0 := by
  intro k
  induction k with
  | zero => rfl
  | succ k ih => show 0 % 2 + pcf k (0 / 2) = 0; rw [Nat.zero_div, ih]
theorem bits_go {N : Nat} {τ : MSt} : ∀ (m n a : Nat), n < 2 ^ 16 → pcf 16 n < m → fM_bits_L4 N τ m (nI a) (nI n) = some (nI (a + pcf 16 n)) := by
  intro m
  induction m with
  | zero => intro n a _ h; omega
  | succ m ih =>
    intro n a hn hm
    rw [fM_bits_L4]
    by_cases c : n = 0
    · subst c
      rw [if_pos (show nI 0 = 0 from rfl), pc_0]
      rfl
    · have hs := pc_step 16 n hn (by omega)
      have hle : n &&& (n - 1) ≤ n := Nat.and_le_left
      obtain ⟨n', rfl⟩ : ∃ k, n = k + 1 := ⟨n - 1, by omega⟩
      rw [Nat.add_sub_cancel] at hs hle
      rw [if_neg (show ¬ nI (n' + 1) = 0 from nI_ne0 (by omega) (by omega)), nI_pred, fa_and, nI_1, ih _ (a + 1) (by omega) (by omega), ← hs, Nat.add_assoc, Nat.add_comm 1]
theorem pc_le : ∀ (k n : Nat), pcf k n ≤ k := by
  intro k
  induction k with
  | zero => intro n; exact Nat.le_refl _
  | succ k ih =>
    intro n
    show n % 2 + pcf k (n / 2) ≤ k + 1
    have := ih (n / 2)
    omega
theorem bits16 {N : Nat} (hN : 20 ≤ N) {τ : MSt} {n : Nat} (hn : n < 2 ^ 16) : fM_bits N τ (nI n) = some (nI (pcf 16 n)) := by
  have := bits_go (N := N) (τ := τ) N n 0 hn (by have := pc_le 16 n; omega)
  rw [nI_0, Nat.zero_add] at this
  exact this
theorem ush_ok : ∀ k, k < 32 → ∀ (n : Nat), n < 2 ^ 31 → ((nI n).toUInt32 >>> ((nI k).toUInt32 &&& Int32.toUInt32 31)).toInt32 = nI (n / 2 ^ k) := by
  intro k hk n hn
  have h1 : (nI n).toUInt32 = UInt32.ofNat n := by
    apply UInt32.toBitVec_inj.1
    show BitVec.ofNat 32 n = BitVec.ofNat 32 n
    rfl
  have h2 : ∀ k, k < 32 → ((nI k).toUInt32 &&& Int32.toUInt32 31) = UInt32.ofNat k := by decide +kernel
  rw [h1, h2 k hk]
  apply Int32.toBitVec_inj.1
  show (UInt32.ofNat n >>> UInt32.ofNat k).toBitVec = BitVec.ofNat 32 (n / 2 ^ k)
  apply BitVec.eq_of_toNat_eq
  rw [BitVec.toNat_ofNat]
  show (UInt32.ofNat n >>> UInt32.ofNat k).toNat = _
  rw [UInt32.toNat_shiftRight, UInt32.toNat_ofNat', UInt32.toNat_ofNat']
  have : n / 2 ^ k ≤ n := Nat.div_le_self _ _
  rw [Nat.mod_eq_of_lt (show n < 2 ^ 32 by omega), Nat.mod_eq_of_lt (show k < 2 ^ 32 by omega), Nat.mod_eq_of_lt (show k < 32 by omega), Nat.mod_eq_of_lt (show n / 2 ^ k < 2 ^ 32 by omega), Nat.shiftRight_eq_div_pow]
def q1 (n : Nat) : Nat := Nat.sub n (Nat.land (Nat.div n 2) 1431655765)
def q2 (n : Nat) : Nat := Nat.add (Nat.land n 858993459) (Nat.land (Nat.div n 4) 858993459)
def q3 (n : Nat) : Nat := Nat.land (Nat.add n (Nat.div n 16)) 252645135
def q4 (n : Nat) : Nat := Nat.add n (Nat.div n 256)
def q5 (n : Nat) : Nat := Nat.land (Nat.add n (Nat.div n 65536)) 63
def qc5 (n : Nat) : Nat := q5 (q4 (q3 (q2 (q1 n))))
def ckb : Nat → Nat → Bool
  | 0, _ => true
  | k + 1, n => Nat.beq (qc5 n) (Nat.add (qc5 (Nat.div n 2)) (Nat.mod n 2)) && ckb k (n + 1)
theorem qcB : ((List.range 256).all fun h => ckb 256 (256 * h)) = true := by decide +kernel
theorem ckb_at : ∀ (k n j : Nat), ckb k n = true → j < k → qc5 (n + j) = qc5 ((n + j) / 2) + (n + j) % 2 := by
  intro k
  induction k with
  | zero => intro n j _ h; omega
  | succ k ih =>
    intro n j h hj
    have h : (Nat.beq (qc5 n) (Nat.add (qc5 (Nat.div n 2)) (Nat.mod n 2)) && ckb k (n + 1)) = true := h
    rw [Bool.and_eq_true] at h
    cases j with
    | zero => exact Nat.eq_of_beq_eq_true h.1
    | succ j =>
      have := ih (n + 1) j h.2 (by omega)
      rw [show n + (j + 1) = n + 1 + j by omega]
      exact this
theorem qc5_half {n : Nat} (hn : n < 65536) : qc5 n = qc5 (n / 2) + n % 2 := by
  have g := qcB
  simp only [List.all_eq_true, List.mem_range] at g
  have g := ckb_at 256 (256 * (n / 256)) (n % 256) (g (n / 256) (by omega)) (by omega)
  rw [show 256 * (n / 256) + n % 256 = n by omega] at g
  exact g
theorem qc5_pc : ∀ (k n : Nat), k ≤ 16 → n < 2 ^ k → qc5 n = pcf k n := by
  intro k
  induction k with
  | zero =>
    intro n _ h
    have : n = 0 := by omega
    subst this
    decide
  | succ k ih =>
    intro n hk h
    have h16 : (2 : Nat) ^ (k + 1) ≤ 2 ^ 16 := Nat.pow_le_pow_right (by omega) hk
    rw [qc5_half (by omega), ih (n / 2) (by omega) (by rw [Nat.pow_succ] at h; omega)]
    show _ = n % 2 + pcf k (n / 2)
    omega
theorem bitC16 (N : Nat) {n : Nat} (hn : n < 2 ^ 16) : fJ_bitCount_0f7a4 N (nI n) = some (nI (pcf 16 n)) := by
  rw [← qc5_pc 16 n (by omega) hn]
  unfold fJ_bitCount_0f7a4
  have b1 : q1 n ≤ n := Nat.sub_le _ _
  have e1 : nI n - (((nI n).toUInt32 >>> ((1 : Int32).toUInt32 &&& Int32.toUInt32 31)).toInt32 &&& (1431655765 : Int32)) = nI (q1 n) := by
    have hle : n / 2 ^ 1 &&& 1431655765 ≤ n / 2 ^ 1 := Nat.and_le_left
    rw [show (1 : Int32) = nI 1 from rfl, ush_ok 1 (by omega) n (by omega), show (1431655765 : Int32) = nI 1431655765 from rfl, fa_and, nI_sub (by omega)]
    rfl
  rw [e1]
  generalize hm1 : q1 n = m1 at b1
  have b2 : q2 m1 < 2 ^ 18 := by
    have h1 : m1 &&& 858993459 ≤ m1 := Nat.and_le_left
    have h2 : m1 / 4 &&& 858993459 ≤ m1 / 4 := Nat.and_le_left
    show (m1 &&& 858993459) + (m1 / 4 &&& 858993459) < _
    omega
  have e2 : (nI m1 &&& (858993459 : Int32)) + (((nI m1).toUInt32 >>> ((2 : Int32).toUInt32 &&& Int32.toUInt32 31)).toInt32 &&& (858993459 : Int32)) = nI (q2 m1) := by
    rw [show (2 : Int32) = nI 2 from rfl, ush_ok 2 (by omega) m1 (by omega), show (858993459 : Int32) = nI 858993459 from rfl, fa_and, fa_and, nI_add]
    rfl
  rw [e2]
  generalize hm2 : q2 m1 = m2 at b2
  have b3 : q3 m2 < 2 ^ 19 := by
    have h1 : (m2 + m2 / 16) &&& 252645135 ≤ m2 + m2 / 16 := Nat.and_le_left
    show (m2 + m2 / 16) &&& 252645135 < _
    omega
  have e3 : (nI m2 + ((nI m2).toUInt32 >>> ((4 : Int32).toUInt32 &&& Int32.toUInt32 31)).toInt32) &&& (252645135 : Int32) = nI (q3 m2) := by
    rw [show (4 : Int32) = nI 4 from rfl, ush_ok 4 (by omega) m2 (by omega), show (252645135 : Int32) = nI 252645135 from rfl, nI_add, fa_and]
    rfl
  rw [e3]
  generalize hm3 : q3 m2 = m3 at b3
  have e4 : nI m3 + ((nI m3).toUInt32 >>> ((8 : Int32).toUInt32 &&& Int32.toUInt32 31)).toInt32 = nI (q4 m3) := by
    rw [show (8 : Int32) = nI 8 from rfl, ush_ok 8 (by omega) m3 (by omega), nI_add]
    rfl
  have b4 : q4 m3 < 2 ^ 20 := by
    show m3 + m3 / 256 < _
    omega
  rw [e4]
  generalize hm4 : q4 m3 = m4 at b4
  rw [show (16 : Int32) = nI 16 from rfl, ush_ok 16 (by omega) m4 (by omega), show (63 : Int32) = nI 63 from rfl, nI_add, fa_and]
  unfold qc5
  rw [hm1, hm2, hm3, hm4]
  rfl
theorem pc_top : ∀ (c k n : Nat), c ≤ k → n + 1 < 2 ^ c → pcf k n < c := by
  intro c
  induction c with
  | zero => intro k n _ h; omega
  | succ c ih =>
    intro k n hk h
    obtain ⟨k, rfl⟩ : ∃ j, k = j + 1 := ⟨k - 1, by omega⟩
    show n % 2 + pcf k (n / 2) < c + 1
    rw [Nat.pow_succ] at h
    by_cases g : n / 2 + 1 < 2 ^ c
    · have := ih k (n / 2) (by omega) g
      omega
    · have e : n / 2 + 1 = 2 ^ c := by omega
      have hb : n % 2 = 0 := by omega
      have : pcf k (n / 2) ≤ c := by
        have hgen : ∀ (c k n : Nat), c ≤ k → n < 2 ^ c → pcf k n ≤ c := by
          intro c
          induction c with
          | zero =>
            intro k n _ h
            have : n = 0 := by omega
            rw [this, pc_0]
            exact Nat.le_refl _
          | succ c ih =>
            intro k n hk h
            obtain ⟨k, rfl⟩ : ∃ j, k = j + 1 := ⟨k - 1, by omega⟩
            show n % 2 + pcf k (n / 2) ≤ c + 1
            have := ih k (n / 2) (by omega) (by rw [Nat.pow_succ] at h; omega)
            omega
        exact hgen c k (n / 2) (by omega) (by omega)
      omega
theorem pc_full : ∀ (c k : Nat), c ≤ k → pcf k (2 ^ c - 1) = c := by
  intro c
  induction c with
  | zero => intro k _; exact pc_0 k
  | succ c ih =>
    intro k hk
    obtain ⟨k, rfl⟩ : ∃ j, k = j + 1 := ⟨k - 1, by omega⟩
    have h := Nat.two_pow_pos c
    show (2 ^ (c + 1) - 1) % 2 + pcf k ((2 ^ (c + 1) - 1) / 2) = c + 1
    rw [show (2 ^ (c + 1) - 1) / 2 = 2 ^ c - 1 by rw [Nat.pow_succ]; omega, ih k (by omega), show (2 ^ (c + 1) - 1) % 2 = 1 by rw [Nat.pow_succ]; omega]
    omega
