/-! p20: what is counted at a server, and what is sent -/
def cD (μ : Nat → Nat → Int32) (s : Nat) : Nat → Nat
  | 0 => 0
  | k + 1 => cD μ s k + (if μ 22 (600 * s + k) = 0 then 0 else 1)
theorem cD_le (μ : Nat → Nat → Int32) (s : Nat) : ∀ k, cD μ s k ≤ k
  | 0 => Nat.le_refl _
  | k + 1 => by
    have ih := cD_le μ s k
    rw [cD]
    split <;> omega
theorem cD_K (μ : Nat → Nat → Int32) (s : Nat) : ∀ k, mKnR μ 22 s 600 k = nI (cD μ s k)
  | 0 => rfl
  | k + 1 => by
    have ih := cD_K μ s k
    rw [mKnR, cD, ih]
    split
    · exact nI_add _ 0
    · exact nI_add _ 1
theorem cD_cg {μ μ' : Nat → Nat → Int32} {s : Nat} : ∀ k, (∀ j, j < k → (μ' 22 (600 * s + j) = 0 ↔ μ 22 (600 * s + j) = 0)) → cD μ' s k = cD μ s k
  | 0, _ => rfl
  | k + 1, h => by
    rw [cD, cD, cD_cg k (fun j hj => h j (by omega))]
    by_cases c : μ 22 (600 * s + k) = 0
    · rw [if_pos c, if_pos ((h k (by omega)).mpr c)]
    · rw [if_neg c, if_neg (fun z => c ((h k (by omega)).mp z))]
theorem cD_row {μ μ' : Nat → Nat → Int32} (h : μ' 22 = μ 22) (s k : Nat) : cD μ' s k = cD μ s k := cD_cg k (fun j _ => by rw [h])
theorem cD_oth {μ μ' : Nat → Nat → Int32} {s i a : Nat} (h : μ' 22 = upd (μ 22) (600 * s + a) 1) (hi : i ≠ s) (ha : a < 600) {k : Nat} (hk : k ≤ 600) : cD μ' i k = cD μ i k := cD_cg k (fun j hj => by rw [h, upd_ne _ _ (by omega)])
theorem cD_do {μ μ' : Nat → Nat → Int32} {s a : Nat} (h : μ' 22 = upd (μ 22) (600 * s + a) 1) (hz : μ 22 (600 * s + a) = 0) : ∀ k, a < k → cD μ' s k = cD μ s k + 1
  | 0, hk => absurd hk (Nat.not_lt_zero _)
  | k + 1, hk => by
    rw [cD, cD]
    by_cases c : a = k
    · subst c
      rw [cD_cg (μ := μ) (μ' := μ') (s := s) a (fun j hj => by rw [h, upd_ne _ _ (by omega)]), h, upd_same, hz, if_neg (by decide), if_pos rfl]
    · rw [cD_do h hz k (by omega), h, upd_ne _ _ (by omega)]
      omega
theorem snd_25 (μ : Nat → Nat → Int32) (act sv : Int32) (i : Nat) : ∀ s, mSnd μ act sv s 25 i = if i < s ∧ kHas sv i = true then μ 25 i + 1 else μ 25 i
  | 0 => by rw [mSnd, if_neg (fun z => absurd z.1 (Nat.not_lt_zero _))]
  | s + 1 => by
    rw [mSnd]
    by_cases d : kHas sv s = true
    · rw [if_pos ((kHas_1 _ _).mp d)]
      show upd (mSnd μ act sv s 25) s (mSnd μ act sv s 25 s + 1) i = _
      by_cases c : i = s
      · subst c
        rw [upd_same, mSnd_last μ act sv i (Nat.le_refl _), if_pos ⟨by omega, d⟩]
      · rw [upd_ne _ _ c, snd_25 μ act sv i s]
        by_cases f : i < s
        · by_cases g : kHas sv i = true
          · rw [if_pos ⟨f, g⟩, if_pos ⟨by omega, g⟩]
          · rw [if_neg (fun z => g z.2), if_neg (fun z => g z.2)]
        · rw [if_neg (fun z => f z.1), if_neg (fun z => f (by have := z.1; omega))]
    · rw [if_neg (fun z => d ((kHas_1 _ _).mpr z)), snd_25 μ act sv i s]
      by_cases g : kHas sv i = true
      · by_cases f : i < s
        · rw [if_pos ⟨f, g⟩, if_pos ⟨by omega, g⟩]
        · by_cases c : i = s
          · exact absurd (c ▸ g) d
          · rw [if_neg (fun z => f z.1), if_neg (fun z => f (by have := z.1; omega))]
      · rw [if_neg (fun z => g z.2), if_neg (fun z => g z.2)]
theorem snd_23 (μ : Nat → Nat → Int32) (act sv : Int32) (hb : ∀ i, i < 4 → tn (μ 25 i) < 1200) : ∀ s, s ≤ 4 → ∀ i j, i < 4 → j < 1200 → mSnd μ act sv s 23 (1200 * i + j) = if i < s ∧ kHas sv i = true ∧ j = tn (μ 25 i) then act else μ 23 (1200 * i + j)
  | 0, _, i, j, _, _ => by rw [mSnd, if_neg (fun z => absurd z.1 (Nat.not_lt_zero _))]
  | s + 1, hs, i, j, hi, hj => by
    have ih := snd_23 μ act sv hb s (by omega) i j hi hj
    rw [mSnd]
    by_cases d : kHas sv s = true
    · rw [if_pos ((kHas_1 _ _).mp d)]
      show upd (mSnd μ act sv s 23) (1200 * s + tn (mSnd μ act sv s 25 s)) act (1200 * i + j) = _
      rw [mSnd_last μ act sv s (Nat.le_refl _)]
      have hb2 := hb s (by omega)
      by_cases c : i = s
      · subst c
        by_cases e : j = tn (μ 25 i)
        · rw [e, upd_same, if_pos ⟨by omega, d, rfl⟩]
        · rw [upd_ne _ _ (by omega), ih, if_neg (fun z => e z.2.2), if_neg (fun z => e z.2.2)]
      · rw [upd_ne _ _ (by omega), ih]
        by_cases f : i < s ∧ kHas sv i = true ∧ j = tn (μ 25 i)
        · rw [if_pos f, if_pos ⟨by have := f.1; omega, f.2⟩]
        · rw [if_neg f, if_neg (fun z => f ⟨by have := z.1; omega, z.2⟩)]
    · rw [if_neg (fun z => d ((kHas_1 _ _).mpr z)), ih]
      by_cases f : i < s ∧ kHas sv i = true ∧ j = tn (μ 25 i)
      · rw [if_pos f, if_pos ⟨by have := f.1; omega, f.2⟩]
      · rw [if_neg f, if_neg (fun z => ?_)]
        by_cases c : i = s
        · exact d (c ▸ z.2.1)
        · exact f ⟨by have := z.1; omega, z.2⟩
theorem tn_1 {x : Int32} {n : Nat} (h : isN x n) (hn : n < 2 ^ 30) : tn (x + 1) = tn x + 1 := by
  have h2 := h.2
  rw [h.1, nI_1, tn_nI (by omega), tn_nI (by omega)]
/-- what is sent by who waits: at most one more -/
theorem snd_tn (μ : Nat → Nat → Int32) (act sv : Int32) {i n : Nat} (hi : i < 4) (h : isN (μ 25 i) n) (hn : n < 2 ^ 30) : tn (mSnd μ act sv 4 25 i) = tn (μ 25 i) + (if kHas sv i = true then 1 else 0) := by
  rw [snd_25]
  by_cases c : kHas sv i = true
  · rw [if_pos ⟨hi, c⟩, if_pos c]; exact tn_1 h hn
  · rw [if_neg (fun z => c z.2), if_neg c]; rfl
