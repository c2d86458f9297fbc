/-! bits of ints and longs -/
theorem jb_sh (x : Int32) {n : Nat} (h : n < 32) : (x >>> (nI n &&& 31)).toBitVec = x.toBitVec.sshiftRight n := by
  have e : (nI n &&& 31) = nI n := by
    have : n = 0 ∨ n = 1 ∨ n = 2 ∨ n = 3 ∨ n = 4 ∨ n = 5 ∨ n = 6 ∨ n = 7 ∨ n = 8 ∨ n = 9 ∨ n = 10 ∨ n = 11 ∨ n = 12 ∨ n = 13 ∨ n = 14 ∨ n = 15 ∨ n = 16 ∨ n = 17 ∨ n = 18 ∨ n = 19 ∨ n = 20 ∨ n = 21 ∨ n = 22 ∨ n = 23 ∨ n = 24 ∨ n = 25 ∨ n = 26 ∨ n = 27 ∨ n = 28 ∨ n = 29 ∨ n = 30 ∨ n = 31 := by omega
    rcases this with rfl | rfl | rfl | rfl | rfl | rfl | rfl | rfl | rfl | rfl | rfl | rfl | rfl | rfl | rfl | rfl | rfl | rfl | rfl | rfl | rfl | rfl | rfl | rfl | rfl | rfl | rfl | rfl | rfl | rfl | rfl | rfl <;> decide
  rw [e]
  have h2 : ((nI n).toBitVec.smod 32).toNat = n := by
    have : n = 0 ∨ n = 1 ∨ n = 2 ∨ n = 3 ∨ n = 4 ∨ n = 5 ∨ n = 6 ∨ n = 7 ∨ n = 8 ∨ n = 9 ∨ n = 10 ∨ n = 11 ∨ n = 12 ∨ n = 13 ∨ n = 14 ∨ n = 15 ∨ n = 16 ∨ n = 17 ∨ n = 18 ∨ n = 19 ∨ n = 20 ∨ n = 21 ∨ n = 22 ∨ n = 23 ∨ n = 24 ∨ n = 25 ∨ n = 26 ∨ n = 27 ∨ n = 28 ∨ n = 29 ∨ n = 30 ∨ n = 31 := by omega
    rcases this with rfl | rfl | rfl | rfl | rfl | rfl | rfl | rfl | rfl | rfl | rfl | rfl | rfl | rfl | rfl | rfl | rfl | rfl | rfl | rfl | rfl | rfl | rfl | rfl | rfl | rfl | rfl | rfl | rfl | rfl | rfl | rfl <;> decide
  show BitVec.sshiftRight' x.toBitVec ((nI n).toBitVec.smod 32) = _
  rw [BitVec.sshiftRight', h2]
theorem kHas_bv (x : Int32) {n : Nat} (h : n < 32) : kHas x n = x.toBitVec.getLsbD n := by
  have e : ((x >>> (nI n &&& 31)) &&& 1).toBitVec = (x.toBitVec.sshiftRight n) &&& 1#32 := by
    rw [Int32.toBitVec_and, jb_sh x h]
    rfl
  have e2 : ((x >>> (nI n &&& 31)) &&& 1 = 0) ↔ (x.toBitVec.sshiftRight n).getLsbD 0 = false := by
    rw [← Int32.toBitVec_inj, e]
    constructor
    · intro h2
      have h3 := congrArg (fun v : BitVec 32 => v.getLsbD 0) h2
      simpa using h3
    · intro h2
      apply BitVec.eq_of_getLsbD_eq
      intro i hi
      rw [BitVec.getLsbD_and]
      by_cases hi0 : i = 0
      · subst hi0; rw [h2]; simp
      · have : (1#32).getLsbD i = false := by
          rw [BitVec.getLsbD_one]; simp [hi0]
        rw [this, Bool.and_false]
        simp
  rw [kHas]
  have h4 : (x.toBitVec.sshiftRight n).getLsbD 0 = x.toBitVec.getLsbD n := by
    rw [BitVec.getLsbD_sshiftRight]
    simp
    omega
  cases hb : x.toBitVec.getLsbD n with
  | false => simp only [e2.mpr (h4.trans hb)]; rfl
  | true =>
    have : ¬ (x >>> (nI n &&& 31)) &&& 1 = 0 := fun q => by
      have := e2.mp q
      rw [h4, hb] at this
      cases this
    simp only [this]; rfl
theorem kBit_bv {r : Nat} (h : r < 32) : (kBit r).toBitVec = 1#32 <<< r := by
  have : r = 0 ∨ r = 1 ∨ r = 2 ∨ r = 3 ∨ r = 4 ∨ r = 5 ∨ r = 6 ∨ r = 7 ∨ r = 8 ∨ r = 9 ∨ r = 10 ∨ r = 11 ∨ r = 12 ∨ r = 13 ∨ r = 14 ∨ r = 15 ∨ r = 16 ∨ r = 17 ∨ r = 18 ∨ r = 19 ∨ r = 20 ∨ r = 21 ∨ r = 22 ∨ r = 23 ∨ r = 24 ∨ r = 25 ∨ r = 26 ∨ r = 27 ∨ r = 28 ∨ r = 29 ∨ r = 30 ∨ r = 31 := by omega
  rcases this with rfl | rfl | rfl | rfl | rfl | rfl | rfl | rfl | rfl | rfl | rfl | rfl | rfl | rfl | rfl | rfl | rfl | rfl | rfl | rfl | rfl | rfl | rfl | rfl | rfl | rfl | rfl | rfl | rfl | rfl | rfl | rfl <;> decide
theorem kBit_get {r q : Nat} (hr : r < 32) (hq : q < 32) : (kBit r).toBitVec.getLsbD q = decide (q = r) := by
  rw [kBit_bv hr, BitVec.getLsbD_shiftLeft]
  by_cases h : q = r
  · subst h; simp [hq]
  · by_cases h2 : q < r
    · simp [h, h2]
    · have : ¬ q - r = 0 := by omega
      simp [h, h2, BitVec.getLsbD_one, this]
theorem kHas_bit {r q : Nat} (hr : r < 32) (hq : q < 32) : kHas (kBit r) q = decide (q = r) := by rw [kHas_bv _ hq, kBit_get hr hq]
theorem kHas_or (x y : Int32) {q : Nat} (hq : q < 32) : kHas (x ||| y) q = (kHas x q || kHas y q) := by rw [kHas_bv _ hq, kHas_bv _ hq, kHas_bv _ hq, Int32.toBitVec_or, BitVec.getLsbD_or]
theorem kHas_andn (x y : Int32) {q : Nat} (hq : q < 32) : kHas (x &&& (y ^^^ (-1))) q = (kHas x q && !kHas y q) := by
  rw [kHas_bv _ hq, kHas_bv _ hq, kHas_bv _ hq, Int32.toBitVec_and, Int32.toBitVec_xor, BitVec.getLsbD_and, BitVec.getLsbD_xor]
  have : (-1 : Int32).toBitVec.getLsbD q = true := by
    rw [show (-1 : Int32).toBitVec = BitVec.allOnes 32 from by decide, BitVec.getLsbD_allOnes]
    simp [hq]
  rw [this, Bool.xor_true]
theorem kHas_and (x y : Int32) {q : Nat} (hq : q < 32) : kHas (x &&& y) q = (kHas x q && kHas y q) := by rw [kHas_bv _ hq, kHas_bv _ hq, kHas_bv _ hq, Int32.toBitVec_and, BitVec.getLsbD_and]
theorem kHas_0 {q : Nat} (hq : q < 32) : kHas 0 q = false := by rw [kHas_bv _ hq]; simp
theorem kHas_ext {x y : Int32} (h : ∀ q, q < 32 → kHas x q = kHas y q) : x = y := by
  apply Int32.toBitVec_inj.mp
  apply BitVec.eq_of_getLsbD_eq
  intro q hq
  rw [← kHas_bv x hq, ← kHas_bv y hq, h q hq]
/-! longs -/
theorem jl_n {n : Nat} (h : n < 64) : ((nI n).toInt64 &&& 63) = Int64.ofNat n ∧ ((Int64.ofNat n).toBitVec.smod 64).toNat = n ∧ ((1 : Int64) <<< (Int64.ofNat n)).toBitVec = 1#64 <<< n := by
  have h2 : ∀ n : Fin 64, ((nI n.val).toInt64 &&& 63) = Int64.ofNat n.val ∧ ((Int64.ofNat n.val).toBitVec.smod 64).toNat = n.val ∧ ((1 : Int64) <<< (Int64.ofNat n.val)).toBitVec = 1#64 <<< n.val := by decide +kernel
  exact h2 ⟨n, h⟩
theorem kHsL_bv (x : Int64) {n : Nat} (h : n < 64) : kHsL x n = x.toBitVec.getLsbD n := by
  obtain ⟨h1, h2, -⟩ := jl_n h
  have e0 : (x >>> ((nI n).toInt64 &&& 63)).toBitVec = x.toBitVec.sshiftRight n := by
    rw [h1]
    show BitVec.sshiftRight' x.toBitVec ((Int64.ofNat n).toBitVec.smod 64) = _
    rw [BitVec.sshiftRight', h2]
  have e : ((x >>> ((nI n).toInt64 &&& 63)) &&& 1).toBitVec = (x.toBitVec.sshiftRight n) &&& 1#64 := by
    rw [Int64.toBitVec_and, e0]
    rfl
  have e2 : ((x >>> ((nI n).toInt64 &&& 63)) &&& 1 = 0) ↔ (x.toBitVec.sshiftRight n).getLsbD 0 = false := by
    rw [← Int64.toBitVec_inj, e]
    constructor
    · intro h2
      have h3 := congrArg (fun v : BitVec 64 => v.getLsbD 0) h2
      simpa using h3
    · intro h2
      apply BitVec.eq_of_getLsbD_eq
      intro i hi
      rw [BitVec.getLsbD_and]
      by_cases hi0 : i = 0
      · subst hi0; rw [h2]; simp
      · have : (1#64).getLsbD i = false := by
          rw [BitVec.getLsbD_one]; simp [hi0]
        rw [this, Bool.and_false]
        simp
  rw [kHsL]
  have h4 : (x.toBitVec.sshiftRight n).getLsbD 0 = x.toBitVec.getLsbD n := by
    rw [BitVec.getLsbD_sshiftRight]
    simp
    omega
  cases hb : x.toBitVec.getLsbD n with
  | false => simp only [e2.mpr (h4.trans hb)]; rfl
  | true =>
    have : ¬ (x >>> ((nI n).toInt64 &&& 63)) &&& 1 = 0 := fun q => by
      have := e2.mp q
      rw [h4, hb] at this
      cases this
    simp only [this]; rfl
theorem kBL_get {r q : Nat} (hr : r < 64) (hq : q < 64) : (kBL r).toBitVec.getLsbD q = decide (q = r) := by
  obtain ⟨h1, -, h3⟩ := jl_n hr
  rw [kBL, h1, h3, BitVec.getLsbD_shiftLeft]
  by_cases h : q = r
  · subst h; simp [hq]
  · by_cases h2 : q < r
    · simp [h, h2]
    · have : ¬ q - r = 0 := by omega
      simp [h, h2, BitVec.getLsbD_one, this]
theorem kHsL_bit {r q : Nat} (hr : r < 64) (hq : q < 64) : kHsL (kBL r) q = decide (q = r) := by rw [kHsL_bv _ hq, kBL_get hr hq]
theorem kHsL_or (x y : Int64) {q : Nat} (hq : q < 64) : kHsL (x ||| y) q = (kHsL x q || kHsL y q) := by rw [kHsL_bv _ hq, kHsL_bv _ hq, kHsL_bv _ hq, Int64.toBitVec_or, BitVec.getLsbD_or]
theorem kHsL_andn (x y : Int64) {q : Nat} (hq : q < 64) : kHsL (x &&& (y ^^^ (-1))) q = (kHsL x q && !kHsL y q) := by
  rw [kHsL_bv _ hq, kHsL_bv _ hq, kHsL_bv _ hq, Int64.toBitVec_and, Int64.toBitVec_xor, BitVec.getLsbD_and, BitVec.getLsbD_xor]
  have : (-1 : Int64).toBitVec.getLsbD q = true := by
    rw [show (-1 : Int64).toBitVec = BitVec.allOnes 64 from by decide, BitVec.getLsbD_allOnes]
    simp [hq]
  rw [this, Bool.xor_true]
theorem kHsL_0 {q : Nat} (hq : q < 64) : kHsL 0 q = false := by rw [kHsL_bv _ hq]; simp
theorem jb_and1 (x : Int32) : x &&& 1 = 0 ∨ x &&& 1 = 1 := by
  have h : (x &&& 1).toBitVec = 0#32 ∨ (x &&& 1).toBitVec = 1#32 := by
    rw [Int32.toBitVec_and]
    by_cases hb : x.toBitVec.getLsbD 0 = true
    · right
      apply BitVec.eq_of_getLsbD_eq
      intro i hi
      rw [BitVec.getLsbD_and]
      by_cases h0 : i = 0
      · subst h0; rw [hb]; decide
      · have : (1#32).getLsbD i = false := by rw [BitVec.getLsbD_one]; simp [h0]
        rw [this, show (1 : Int32).toBitVec = 1#32 from rfl, this, Bool.and_false]
    · left
      apply BitVec.eq_of_getLsbD_eq
      intro i hi
      rw [BitVec.getLsbD_and]
      by_cases h0 : i = 0
      · subst h0
        rw [Bool.eq_false_iff.mpr hb]; simp
      · have : (1#32).getLsbD i = false := by rw [BitVec.getLsbD_one]; simp [h0]
        rw [show (1 : Int32).toBitVec = 1#32 from rfl, this, Bool.and_false]; simp
  rcases h with h | h
  · exact Or.inl (Int32.toBitVec_inj.mp h)
  · exact Or.inr (Int32.toBitVec_inj.mp h)
theorem jb_one {x : Int32} (h : ¬ x &&& 1 = 0) : x &&& 1 = 1 := (jb_and1 x).resolve_left h
theorem kHas_1 (x : Int32) (n : Nat) : (kHas x n = true) ↔ ((x >>> (nI n &&& 31)) &&& 1 = 1) := by
  rw [kHas]
  rcases jb_and1 (x >>> (nI n &&& 31)) with h | h
  · rw [h]; decide
  · rw [h]; decide
