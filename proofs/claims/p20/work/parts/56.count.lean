/-! the number of bits -/
theorem nat_and256 {a b c d : Nat} (hb : b < 256) (hd : d < 256) : (256 * a + b) &&& (256 * c + d) = 256 * (a &&& c) + (b &&& d) := by
  have hbd : b &&& d < 256 := Nat.lt_of_le_of_lt Nat.and_le_left hb
  apply Nat.eq_of_testBit_eq
  intro i
  rw [Nat.testBit_and]
  have key : ∀ (x y : Nat), y < 256 → (256 * x + y).testBit i = if i < 8 then y.testBit i else x.testBit (i - 8) := by
    intro x y hy
    exact Nat.testBit_two_pow_mul_add (i := 8) x hy i
  rw [key a b hb, key c d hd, key (a &&& c) (b &&& d) hbd]
  by_cases h : i < 8
  · simp [h, Nat.testBit_and]
  · simp [h, Nat.testBit_and]
def cm (v : Nat) : Nat → Nat
  | 0 => 0
  | k + 1 => 256 * cm v k + v
def cf1 (k x : Nat) : Nat := x - (x / 2 &&& cm 85 k)
def cf2 (k x : Nat) : Nat := (x &&& cm 51 k) + (x / 4 &&& cm 51 k)
def cf3 (k x : Nat) : Nat := (x + x / 16) &&& cm 15 k
def g1 (b : Nat) : Nat := b - (b / 2 &&& 85)
def g2 (b : Nat) : Nat := (b &&& 51) + (b / 4 &&& 51)
def g3 (b : Nat) : Nat := (b + b / 16) &&& 15
def pc8 (b : Nat) : Nat := b % 2 + b / 2 % 2 + b / 4 % 2 + b / 8 % 2 + b / 16 % 2 + b / 32 % 2 + b / 64 % 2 + b / 128 % 2
theorem g_all : ∀ b : Fin 256, g3 (g2 (g1 b.val)) = pc8 b.val ∧ g1 b.val < 256 ∧ g2 (g1 b.val) < 256 ∧ g2 (g1 b.val) % 16 ≤ 4 ∧ g2 (g1 b.val) ≤ 68 ∧ pc8 b.val ≤ 8 ∧ (b.val / 2 &&& 85) ≤ b.val := by decide +kernel
theorem e_1 : ∀ b : Fin 256, (128 + b.val / 2) &&& 85 = b.val / 2 &&& 85 := by decide +kernel
theorem e_2 : ∀ b : Fin 256, (64 + b.val / 4) &&& 51 = b.val / 4 &&& 51 ∧ (128 + b.val / 4) &&& 51 = b.val / 4 &&& 51 ∧ (192 + b.val / 4) &&& 51 = b.val / 4 &&& 51 := by decide +kernel
theorem e_3 : ∀ (b : Fin 256), (b.val + b.val / 16 + 16) &&& 15 = (b.val + b.val / 16) &&& 15 ∧ (b.val + b.val / 16 + 32) &&& 15 = (b.val + b.val / 16) &&& 15 ∧ (b.val + b.val / 16 + 48) &&& 15 = (b.val + b.val / 16) &&& 15 ∧ (b.val + b.val / 16 + 64) &&& 15 = (b.val + b.val / 16) &&& 15 := by decide +kernel
theorem cf1_s {k y b : Nat} (hb : b < 256) : cf1 (k + 1) (256 * y + b) = 256 * cf1 k y + g1 b := by
  have h1 : (256 * y + b) / 2 = 256 * (y / 2) + (128 * (y % 2) + b / 2) := by omega
  rw [cf1, cm, h1, nat_and256 (by omega) (by omega)]
  have h2 : (128 * (y % 2) + b / 2) &&& 85 = b / 2 &&& 85 := by
    have h3 : y % 2 = 0 ∨ y % 2 = 1 := by omega
    rcases h3 with h3 | h3
    · rw [h3]; simp
    · rw [h3]; exact e_1 ⟨b, hb⟩
  rw [h2, cf1, g1]
  have h4 : y / 2 &&& cm 85 k ≤ y / 2 := Nat.and_le_left
  have h5 := (g_all ⟨b, hb⟩).2.2.2.2.2.2
  simp only at h5
  omega
theorem cf2_s {k y b : Nat} (hb : b < 256) : cf2 (k + 1) (256 * y + b) = 256 * cf2 k y + g2 b := by
  have h1 : (256 * y + b) / 4 = 256 * (y / 4) + (64 * (y % 4) + b / 4) := by omega
  rw [cf2, cm, h1, nat_and256 hb (by omega), nat_and256 (by omega) (by omega)]
  have h2 : (64 * (y % 4) + b / 4) &&& 51 = b / 4 &&& 51 := by
    have h3 : y % 4 = 0 ∨ y % 4 = 1 ∨ y % 4 = 2 ∨ y % 4 = 3 := by omega
    obtain ⟨e1, e2, e3⟩ := e_2 ⟨b, hb⟩
    rcases h3 with h3 | h3 | h3 | h3
    · rw [h3]; simp
    · rw [h3]; exact e1
    · rw [h3]; exact e2
    · rw [h3]; exact e3
  rw [h2, cf2, g2]
  omega
theorem cf3_s {k y b : Nat} (hb : b ≤ 68) (hy : y % 16 ≤ 4) : cf3 (k + 1) (256 * y + b) = 256 * cf3 k y + g3 b := by
  have h1 : (256 * y + b) + (256 * y + b) / 16 = 256 * (y + y / 16) + (b + b / 16 + 16 * (y % 16)) := by omega
  rw [cf3, cm, h1, nat_and256 (by omega) (by omega)]
  have h2 : (b + b / 16 + 16 * (y % 16)) &&& 15 = (b + b / 16) &&& 15 := by
    have h3 : y % 16 = 0 ∨ y % 16 = 1 ∨ y % 16 = 2 ∨ y % 16 = 3 ∨ y % 16 = 4 := by omega
    obtain ⟨e1, e2, e3, e4⟩ := e_3 ⟨b, by omega⟩
    rcases h3 with h3 | h3 | h3 | h3 | h3
    · rw [h3]; simp
    · rw [h3]; exact e1
    · rw [h3]; exact e2
    · rw [h3]; exact e3
    · rw [h3]; exact e4
  rw [h2, cf3, g3]
/-- the counts of the bytes -/
def cS : Nat → Nat → Nat
  | 0, _ => 0
  | k + 1, x => 256 * cS k (x / 256) + pc8 (x % 256)
theorem cS_eq : ∀ (k x : Nat), x < 256 ^ k → cf3 k (cf2 k (cf1 k x)) = cS k x ∧ cf2 k (cf1 k x) % 16 ≤ 4
  | 0, x, h => by
    have : x = 0 := by simpa using h
    subst this
    decide
  | k + 1, x, h => by
    have hx : x / 256 < 256 ^ k := by
      rw [Nat.pow_succ] at h
      omega
    obtain ⟨ih, ih2⟩ := cS_eq k (x / 256) hx
    have hb : x % 256 < 256 := Nat.mod_lt _ (by omega)
    have e : x = 256 * (x / 256) + x % 256 := (Nat.div_add_mod x 256).symm
    obtain ⟨q1, q2, q3, q4, q5, -, -⟩ := g_all ⟨x % 256, hb⟩
    simp only at q1 q2 q3 q4 q5
    have h1 : cf1 (k + 1) x = 256 * cf1 k (x / 256) + g1 (x % 256) := by
      conv => lhs; rw [e]
      exact cf1_s hb
    have h2 : cf2 (k + 1) (cf1 (k + 1) x) = 256 * cf2 k (cf1 k (x / 256)) + g2 (g1 (x % 256)) := by rw [h1]; exact cf2_s q2
    refine ⟨?_, by rw [h2]; omega⟩
    rw [h2, cf3_s q5 ih2, ih, q1, cS]
def pcN : Nat → Nat → Nat
  | 0, _ => 0
  | k + 1, x => pcN k (x / 256) + pc8 (x % 256)
theorem pc8_le (b : Nat) : pc8 b ≤ 8 := by unfold pc8; omega
theorem dv1 {a b : Nat} (h : b < 256) : (256 * a + b) / 256 = a := by omega
theorem dv2 {a b c : Nat} (hb : b < 256) (hc : c < 256) : (256 * (256 * a + b) + c) / 65536 = a := by omega
theorem dv4 {a b c d e : Nat} (hb : b < 256) (hc : c < 256) (hd : d < 256) (he : e < 256) : (256 * (256 * (256 * (256 * a + b) + c) + d) + e) / 4294967296 = a := by omega
theorem ad2 (a b c d : Nat) : (256 * a + b) + (256 * c + d) = 256 * (a + c) + (b + d) := by omega
theorem ad1 (a b c : Nat) : (256 * a + b) + c = 256 * a + (b + c) := by omega
theorem cS_add {c0 c1 c2 c3 c4 c5 c6 c7 : Nat} (h0 : c0 ≤ 8) (h1 : c1 ≤ 8) (h2 : c2 ≤ 8) (h3 : c3 ≤ 8) (h4 : c4 ≤ 8) (h5 : c5 ≤ 8) (h6 : c6 ≤ 8) (h7 : c7 ≤ 8) (Y : Nat) (hY : Y = 256 * (256 * (256 * (256 * (256 * (256 * (256 * (c7) + (c6)) + (c5)) + (c4)) + (c3)) + (c2)) + (c1)) + (c0)) : ((Y + Y / 256) + (Y + Y / 256) / 65536 + ((Y + Y / 256) + (Y + Y / 256) / 65536) / 4294967296) % 128 = c0 + c1 + c2 + c3 + c4 + c5 + c6 + c7 := by
  have e1 : Y / 256 = 256 * (256 * (256 * (256 * (256 * (256 * (c7) + (c6)) + (c5)) + (c4)) + (c3)) + (c2)) + (c1) := by rw [hY]; exact dv1 (by omega)
  have e2 : Y + Y / 256 = 256 * (256 * (256 * (256 * (256 * (256 * (256 * (c7) + (c6 + c7)) + (c5 + c6)) + (c4 + c5)) + (c3 + c4)) + (c2 + c3)) + (c1 + c2)) + (c0 + c1) := by rw [e1, hY, ad2, ad2, ad2, ad2, ad2, ad2, ad1]
  rw [e2]
  have e3 : (256 * (256 * (256 * (256 * (256 * (256 * (256 * (c7) + (c6 + c7)) + (c5 + c6)) + (c4 + c5)) + (c3 + c4)) + (c2 + c3)) + (c1 + c2)) + (c0 + c1)) / 65536 = 256 * (256 * (256 * (256 * (256 * (c7) + (c6 + c7)) + (c5 + c6)) + (c4 + c5)) + (c3 + c4)) + (c2 + c3) := dv2 (by omega) (by omega)
  rw [e3, ad2, ad2, ad2, ad2, ad2, ad1]
  rw [dv4 (by omega) (by omega) (by omega) (by omega)]
  omega
theorem cS_sum (x : Nat) : ((cS 8 x + cS 8 x / 256) + (cS 8 x + cS 8 x / 256) / 65536 + ((cS 8 x + cS 8 x / 256) + (cS 8 x + cS 8 x / 256) / 65536) / 4294967296) % 128 = pcN 8 x := by
  have h := pc8_le
  rw [cS_add (h (x % 256)) (h (x / 256 % 256)) (h (x / 256 / 256 % 256)) (h (x / 256 / 256 / 256 % 256)) (h (x / 256 / 256 / 256 / 256 % 256)) (h (x / 256 / 256 / 256 / 256 / 256 % 256)) (h (x / 256 / 256 / 256 / 256 / 256 / 256 % 256)) (h (x / 256 / 256 / 256 / 256 / 256 / 256 / 256 % 256)) (cS 8 x) (by simp only [cS, Nat.mul_zero, Nat.zero_add])]
  simp only [pcN]
  omega
