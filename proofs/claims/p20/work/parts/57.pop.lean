theorem jl_shr (x : Int64) : (x.toUInt64 >>> ((1 : Int32).toInt64.toUInt64 &&& Int64.toUInt64 63)).toInt64.toBitVec = x.toBitVec >>> 1 ∧ (x.toUInt64 >>> ((2 : Int32).toInt64.toUInt64 &&& Int64.toUInt64 63)).toInt64.toBitVec = x.toBitVec >>> 2 ∧ (x.toUInt64 >>> ((4 : Int32).toInt64.toUInt64 &&& Int64.toUInt64 63)).toInt64.toBitVec = x.toBitVec >>> 4 ∧ (x.toUInt64 >>> ((8 : Int32).toInt64.toUInt64 &&& Int64.toUInt64 63)).toInt64.toBitVec = x.toBitVec >>> 8 ∧ (x.toUInt64 >>> ((16 : Int32).toInt64.toUInt64 &&& Int64.toUInt64 63)).toInt64.toBitVec = x.toBitVec >>> 16 ∧ (x.toUInt64 >>> ((32 : Int32).toInt64.toUInt64 &&& Int64.toUInt64 63)).toInt64.toBitVec = x.toBitVec >>> 32 := ⟨rfl, rfl, rfl, rfl, rfl, rfl⟩
def ln (x : Int64) : Nat := x.toBitVec.toNat
theorem ln_lt (x : Int64) : ln x < 18446744073709551616 := x.toBitVec.isLt
theorem ln_1 (x : Int64) : ln (jL1 x) = cf1 8 (ln x) := by
  have h : (jL1 x).toBitVec = x.toBitVec - ((x.toBitVec >>> 1) &&& 6148914691236517205#64) := by
    rw [jL1, Int64.toBitVec_sub, Int64.toBitVec_and, (jl_shr x).1]
    rfl
  rw [ln, h, BitVec.toNat_sub, BitVec.toNat_and, BitVec.toNat_ushiftRight, Nat.shiftRight_eq_div_pow]
  have hm : (6148914691236517205#64).toNat = cm 85 8 := by decide +kernel
  rw [hm, cf1, ln]
  have h1 : x.toBitVec.toNat / 2 ^ 1 &&& cm 85 8 ≤ x.toBitVec.toNat / 2 ^ 1 := Nat.and_le_left
  have h2 := x.toBitVec.isLt
  simp only [Nat.pow_one] at h1 ⊢
  omega
theorem cm_51 : cm 51 8 = 3689348814741910323 := by decide +kernel
theorem cm_15 : cm 15 8 = 1085102592571150095 := by decide +kernel
theorem ln_2 (x : Int64) : ln (jL2 x) = cf2 8 (ln x) ∧ ln (jL2 x) ≤ 7378697629483820646 := by
  have h : (jL2 x).toBitVec = (x.toBitVec &&& 3689348814741910323#64) + ((x.toBitVec >>> 2) &&& 3689348814741910323#64) := by
    rw [jL2, Int64.toBitVec_add, Int64.toBitVec_and, Int64.toBitVec_and, (jl_shr x).2.1]
    rfl
  have hm : (3689348814741910323#64).toNat = cm 51 8 := by decide +kernel
  have h1 : x.toBitVec.toNat &&& cm 51 8 ≤ cm 51 8 := Nat.and_le_right
  have h2 : x.toBitVec.toNat / 2 ^ 2 &&& cm 51 8 ≤ cm 51 8 := Nat.and_le_right
  have e : ln (jL2 x) = cf2 8 (ln x) := by
    rw [ln, h, BitVec.toNat_add, BitVec.toNat_and, BitVec.toNat_and, BitVec.toNat_ushiftRight, Nat.shiftRight_eq_div_pow, hm, cf2, ln]
    rw [cm_51] at h1 h2 ⊢
    simp only [show (2 : Nat) ^ 2 = 4 from rfl] at h2 ⊢
    omega
  refine ⟨e, ?_⟩
  rw [e, cf2, ln]
  rw [cm_51] at h1 h2 ⊢
  simp only [show (2 : Nat) ^ 2 = 4 from rfl] at h2
  omega
theorem ln_3 (x : Int64) (hx : ln x ≤ 7378697629483820646) : ln (jL3 x) = cf3 8 (ln x) ∧ ln (jL3 x) ≤ 1085102592571150095 := by
  have h : (jL3 x).toBitVec = (x.toBitVec + (x.toBitVec >>> 4)) &&& 1085102592571150095#64 := by
    rw [jL3, Int64.toBitVec_and, Int64.toBitVec_add, (jl_shr x).2.2.1]
    rfl
  have hm : (1085102592571150095#64).toNat = cm 15 8 := by decide +kernel
  have e : ln (jL3 x) = cf3 8 (ln x) := by
    rw [ln] at hx
    rw [ln, h, BitVec.toNat_and, BitVec.toNat_add, BitVec.toNat_ushiftRight, Nat.shiftRight_eq_div_pow, hm, cf3, ln]
    rw [Nat.mod_eq_of_lt (by simp only [show (2 : Nat) ^ 4 = 16 from rfl]; omega)]
  refine ⟨e, ?_⟩
  rw [e, cf3, ← cm_15]
  exact Nat.and_le_right
theorem ln_4 (x : Int64) (hx : ln x ≤ 1085102592571150095) : ln (jL4 x) = ln x + ln x / 256 := by
  have h : (jL4 x).toBitVec = x.toBitVec + (x.toBitVec >>> 8) := by
    rw [jL4, Int64.toBitVec_add, (jl_shr x).2.2.2.1]
  rw [ln] at hx
  rw [ln, h, BitVec.toNat_add, BitVec.toNat_ushiftRight, Nat.shiftRight_eq_div_pow, ln]
  rw [Nat.mod_eq_of_lt (by simp only [show (2 : Nat) ^ 8 = 256 from rfl]; omega)]
theorem ln_5 (x : Int64) (hx : ln x ≤ 2170205185142300190) : ln (jL5 x) = ln x + ln x / 65536 := by
  have h : (jL5 x).toBitVec = x.toBitVec + (x.toBitVec >>> 16) := by
    rw [jL5, Int64.toBitVec_add, (jl_shr x).2.2.2.2.1]
  rw [ln] at hx
  rw [ln, h, BitVec.toNat_add, BitVec.toNat_ushiftRight, Nat.shiftRight_eq_div_pow, ln]
  rw [Nat.mod_eq_of_lt (by simp only [show (2 : Nat) ^ 16 = 65536 from rfl]; omega)]
theorem ln_6 (x : Int64) (hx : ln x ≤ 4340410370284600380) : ln (jL6 x) = ln x + ln x / 4294967296 := by
  have h : (jL6 x).toBitVec = x.toBitVec + (x.toBitVec >>> 32) := by
    rw [jL6, Int64.toBitVec_add, (jl_shr x).2.2.2.2.2]
  rw [ln] at hx
  rw [ln, h, BitVec.toNat_add, BitVec.toNat_ushiftRight, Nat.shiftRight_eq_div_pow, ln]
  rw [Nat.mod_eq_of_lt (by simp only [show (2 : Nat) ^ 32 = 4294967296 from rfl]; omega)]
/-- the machine's count of a long's bits -/
theorem jLbc_pc (x : Int64) : jLbc x = nI (pcN 8 (ln x)) := by
  have h1 := ln_1 x
  obtain ⟨h2, h2b⟩ := ln_2 (jL1 x)
  obtain ⟨h3, h3b⟩ := ln_3 (jL2 (jL1 x)) h2b
  have h4 := ln_4 (jL3 (jL2 (jL1 x))) h3b
  have h5 := ln_5 (jL4 (jL3 (jL2 (jL1 x)))) (by rw [h4]; omega)
  have h6 := ln_6 (jL5 (jL4 (jL3 (jL2 (jL1 x))))) (by rw [h5, h4]; omega)
  have hS : ln (jL3 (jL2 (jL1 x))) = cS 8 (ln x) := by
    rw [h3, h2, h1]
    exact (cS_eq 8 (ln x) (ln_lt x)).1
  rw [h5, h4, hS] at h6
  rw [jLbc, pk_and _ 7 (by decide)]
  congr 1
  have e : ((jL6 (jL5 (jL4 (jL3 (jL2 (jL1 x)))))).toInt32).toBitVec.toNat = ln (jL6 (jL5 (jL4 (jL3 (jL2 (jL1 x)))))) % 4294967296 := by
    rw [Int64.toBitVec_toInt32, BitVec.signExtend_eq_setWidth_of_le _ (by decide), BitVec.toNat_setWidth, ln]
  rw [e, h6, ← cS_sum]
  omega
/-- sums -/
def sT (f : Nat → Nat) : Nat → Nat
  | 0 => 0
  | n + 1 => sT f n + f n
theorem sT_congr {f g : Nat → Nat} : ∀ n, (∀ j, j < n → f j = g j) → sT f n = sT g n
  | 0, _ => rfl
  | n + 1, h => by rw [sT, sT, sT_congr n (fun j hj => h j (by omega)), h n (by omega)]
theorem sT_zero {f : Nat → Nat} {a : Nat} : ∀ n, (∀ j, a ≤ j → j < a + n → f j = 0) → sT f (a + n) = sT f a
  | 0, _ => rfl
  | n + 1, h => by rw [show a + (n + 1) = (a + n) + 1 from rfl, sT, sT_zero n (fun j h1 h2 => h j h1 (by omega)), h (a + n) (by omega) (by omega)]; rfl
theorem mKnR_sT (μ : Nat → Nat → Int32) (k s z : Nat) : ∀ n, mKnR μ k s z n = nI (sT (fun j => if μ k (z * s + j) = 0 then 0 else 1) n)
  | 0 => rfl
  | n + 1 => by
    rw [mKnR, mKnR_sT μ k s z n, sT]
    by_cases c : μ k (z * s + n) = 0
    · rw [if_pos c, if_pos c]; simp
    · rw [if_neg c, if_neg c]; exact nI_1 _
theorem sT_add (f : Nat → Nat) (a : Nat) : ∀ b, sT f (a + b) = sT f a + sT (fun j => f (a + j)) b
  | 0 => rfl
  | b + 1 => by rw [show a + (b + 1) = (a + b) + 1 from rfl, sT, sT_add f a b, sT, Nat.add_assoc]
theorem pc8_sT (x : Nat) : pc8 (x % 256) = sT (fun n => x / 2 ^ n % 2) 8 := by
  simp only [pc8, sT, Nat.reducePow, Nat.div_one]
  omega
theorem pcN_sT : ∀ k x, pcN k x = sT (fun n => x / 2 ^ n % 2) (8 * k)
  | 0, _ => rfl
  | k + 1, x => by
    rw [show 8 * (k + 1) = 8 + 8 * k by omega, sT_add, ← pc8_sT, pcN, pcN_sT k]
    have h : ∀ j, x / 256 / 2 ^ j % 2 = x / 2 ^ (8 + j) % 2 := by
      intro j
      rw [Nat.div_div_eq_div_mul, Nat.pow_add]
    simp only [h]
    omega
