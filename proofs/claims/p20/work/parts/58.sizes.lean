/-! sizes: the class's counts of bits against the reference's counts of booleans -/
theorem jIbc_all : ∀ b : Fin 1024, jIbc (nI b.val) = nI (sT (fun q => if kHas (nI b.val) q = true then 1 else 0) 10) := by decide +kernel
theorem sm10 {x : Int32} (h : ∀ q, 10 ≤ q → q < 32 → kHas x q = false) : ∃ b : Fin 1024, x = nI b.val := by
  have h1 : x.toBitVec.toNat < 2 ^ 10 := by
    apply Nat.lt_pow_two_of_testBit
    intro i hi
    by_cases c : i < 32
    · rw [← h i hi c, kHas_bv _ c]; rfl
    · exact Nat.testBit_lt_two_pow (Nat.lt_of_lt_of_le x.toBitVec.isLt (Nat.pow_le_pow_right (by omega) (by omega)))
  exact ⟨⟨x.toBitVec.toNat, h1⟩, by
    apply Int32.toBitVec_inj.mp
    apply BitVec.eq_of_toNat_eq
    show x.toBitVec.toNat = (nI x.toBitVec.toNat).toBitVec.toNat
    have e : (nI x.toBitVec.toNat).toBitVec = BitVec.ofNat 32 x.toBitVec.toNat := rfl
    rw [e, BitVec.toNat_ofNat]
    exact (Nat.mod_eq_of_lt x.toBitVec.isLt).symm⟩
theorem jIbc_10 {x : Int32} (h : ∀ q, 10 ≤ q → q < 32 → kHas x q = false) : jIbc x = nI (sT (fun q => if kHas x q = true then 1 else 0) 10) := by
  obtain ⟨b, rfl⟩ := sm10 h
  exact jIbc_all b
theorem sT_mul (f : Nat → Nat) (a : Nat) : ∀ n, sT f (a * n) = sT (fun p => sT (fun q => f (a * p + q)) a) n
  | 0 => rfl
  | n + 1 => by rw [Nat.mul_succ, sT_add, sT_mul f a n, sT]
theorem kSz_sT {f : Nat → Int32} (h : ∀ p q, p < 10 → 10 ≤ q → q < 32 → kHas (f p) q = false) : ∀ n, n ≤ 10 → kSz f n = nI (sT (fun p => sT (fun q => if kHas (f p) q = true then 1 else 0) 10) n)
  | 0, _ => rfl
  | n + 1, hn => by rw [kSz, kSz_sT h n (by omega), jIbc_10 (h n · (by omega)), nI_add]; rfl
theorem kSz_rB {f m : Nat → Int32} {μ : Nat → Nat → Int32} {k i : Nat} (h : rB f m i) (hk : μ k = m) : kSz f 10 = mKnR μ k i 100 100 := by
  rw [kSz_sT h.2 10 (by omega), mKnR_sT, hk]
  congr 1
  rw [show (100 : Nat) = 10 * 10 from rfl, sT_mul]
  apply sT_congr
  intro p hp
  apply sT_congr
  intro q hq
  show (if kHas (f p) q = true then 1 else 0) = _
  rw [h.1 p q hp hq, show 10 * 10 * i + (10 * p + q) = 100 * i + 10 * p + q by omega]
  by_cases c : m (100 * i + 10 * p + q) = 0 <;> simp [c]
theorem jLbc_sT (x : Int64) (h : ∀ n, 50 ≤ n → n < 64 → kHsL x n = false) : jLbc x = nI (sT (fun n => if kHsL x n = true then 1 else 0) 50) := by
  rw [jLbc_pc, pcN_sT]
  congr 1
  have h2 : ∀ n, n < 64 → ln x / 2 ^ n % 2 = if kHsL x n = true then 1 else 0 := by
    intro n hn
    rw [kHsL_bv _ hn, ln, BitVec.getLsbD, Nat.testBit_eq_decide_div_mod_eq]
    by_cases c : x.toBitVec.toNat / 2 ^ n % 2 = 1
    · simp [c]
    · have : x.toBitVec.toNat / 2 ^ n % 2 = 0 := by omega
      simp [this]
  rw [show 8 * 8 = 50 + 14 from rfl, sT_zero 14 (fun n h1 h3 => by
    show ln x / 2 ^ n % 2 = 0
    rw [h2 n (by omega), h n h1 (by omega)]; rfl)]
  exact sT_congr 50 (fun n hn => h2 n (by omega))
theorem jLbc_cnt {x : Int64} {μ : Nat → Nat → Int32} {k i : Nat} (h : ∀ n, n < 50 → kHsL x n = !decide (μ k (50 * i + n) = 0)) (hx : ∀ n, 50 ≤ n → n < 64 → kHsL x n = false) : jLbc x = mKnR μ k i 50 50 := by
  rw [jLbc_sT x hx, mKnR_sT]
  congr 1
  apply sT_congr
  intro n hn
  show (if kHsL x n = true then 1 else 0) = _
  rw [h n hn]
  by_cases c : μ k (50 * i + n) = 0 <;> simp [c]
