/-! p20: what the calls answer, in the state's words -/
def bt (μ : Nat → Nat → Int32) (s p q : Nat) : Nat := (if μ 4 (100 * s + 10 * p + q) = 0 then (if μ 3 (100 * s + 10 * p + q) = 0 then 0 else 1) else 2) + (if μ 5 (100 * s + 10 * p + q) = 0 then 0 else 4)
theorem mTwo_6 {μ : Nat → Nat → Int32} (h : μ 1 0 = nI 6) {p q : Nat} (hp : p < 6) (hq : q < 6) : mTwo μ (nI p) (nI q) = true := by
  rw [mTwo, h, mIn_nI (by omega) hp, mIn_nI (by omega) hq]
  rfl
theorem bt_R {μ : Nat → Nat → Int32} (h : μ 1 0 = nI 6) {s p q : Nat} (hs : s < 4) (hp : p < 6) (hq : q < 6) : mBetR μ (nI s) (nI p) (nI q) = nI (bt μ s p q) := by
  have i3 : mIn (nI s) 0 3 = true := mIn_nI (n := 4) (by omega) hs
  have hT : mBetT μ (nI s) (nI p) (nI q) = 0 := by rw [mBetT, if_pos ⟨i3, mTwo_6 h hp hq⟩]
  rw [mBetR, hT, if_pos rfl, tn_nI (by omega), tn_nI (by omega), tn_nI (by omega), bt]
  by_cases c4 : μ 4 (100 * s + 10 * p + q) = 0
  · by_cases c3 : μ 3 (100 * s + 10 * p + q) = 0
    · by_cases c5 : μ 5 (100 * s + 10 * p + q) = 0
      · rw [if_pos c4, if_pos c4, if_pos c3, if_pos c3, if_pos c5, if_pos c5]; rfl
      · rw [if_pos c4, if_pos c4, if_pos c3, if_pos c3, if_neg c5, if_neg c5]; rfl
    · by_cases c5 : μ 5 (100 * s + 10 * p + q) = 0
      · rw [if_pos c4, if_pos c4, if_neg c3, if_neg c3, if_pos c5, if_pos c5]; rfl
      · rw [if_pos c4, if_pos c4, if_neg c3, if_neg c3, if_neg c5, if_neg c5]; rfl
  · by_cases c5 : μ 5 (100 * s + 10 * p + q) = 0
    · rw [if_neg c4, if_neg c4, if_pos c5, if_pos c5]; rfl
    · rw [if_neg c4, if_neg c4, if_neg c5, if_neg c5]; rfl
theorem bt_rows {μ μ' : Nat → Nat → Int32} (e3 : μ' 3 = μ 3) (e4 : μ' 4 = μ 4) (e5 : μ' 5 = μ 5) (s p q : Nat) : bt μ' s p q = bt μ s p q := by
  unfold bt
  rw [e3, e4, e5]
theorem bt_lt (μ : Nat → Nat → Int32) (s p q : Nat) : bt μ s p q < 7 := by
  unfold bt
  repeat' split
  all_goals omega
/-- in cases: asks, follows, blocks -/
theorem bt_0 {μ : Nat → Nat → Int32} {s p q : Nat} : bt μ s p q = 0 ↔ μ 3 (100 * s + 10 * p + q) = 0 ∧ μ 4 (100 * s + 10 * p + q) = 0 ∧ μ 5 (100 * s + 10 * p + q) = 0 := by
  unfold bt
  by_cases c4 : μ 4 (100 * s + 10 * p + q) = 0
  · by_cases c3 : μ 3 (100 * s + 10 * p + q) = 0
    · by_cases c5 : μ 5 (100 * s + 10 * p + q) = 0
      · rw [if_pos c4, if_pos c3, if_pos c5]; exact ⟨fun _ => ⟨c3, c4, c5⟩, fun _ => rfl⟩
      · rw [if_pos c4, if_pos c3, if_neg c5]; exact ⟨fun z => absurd z (by decide), fun z => absurd z.2.2 c5⟩
    · rw [if_pos c4, if_neg c3]; exact ⟨fun z => by omega, fun z => absurd z.1 c3⟩
  · rw [if_neg c4]; exact ⟨fun z => by omega, fun z => absurd z.2.1 c4⟩
theorem bt_4 {μ : Nat → Nat → Int32} {s p q : Nat} : bt μ s p q < 4 ↔ μ 5 (100 * s + 10 * p + q) = 0 := by
  unfold bt
  by_cases c5 : μ 5 (100 * s + 10 * p + q) = 0
  · rw [if_pos c5]
    refine ⟨fun _ => c5, fun _ => ?_⟩
    split
    · split <;> omega
    · omega
  · rw [if_neg c5]; exact ⟨fun z => by omega, fun z => absurd z c5⟩
theorem bt_f {μ : Nat → Nat → Int32} {s p q : Nat} : bt μ s p q % 4 = 2 ↔ ¬ μ 4 (100 * s + 10 * p + q) = 0 := by
  unfold bt
  by_cases c4 : μ 4 (100 * s + 10 * p + q) = 0
  · rw [if_pos c4]
    refine ⟨fun z => ?_, fun z => absurd c4 z⟩
    split at z <;> split at z <;> omega
  · rw [if_neg c4]
    refine ⟨fun _ => c4, fun _ => ?_⟩
    split <;> omega
theorem bt_a {μ : Nat → Nat → Int32} {s p q : Nat} : bt μ s p q % 4 = 1 ↔ μ 4 (100 * s + 10 * p + q) = 0 ∧ ¬ μ 3 (100 * s + 10 * p + q) = 0 := by
  unfold bt
  by_cases c4 : μ 4 (100 * s + 10 * p + q) = 0
  · rw [if_pos c4]
    by_cases c3 : μ 3 (100 * s + 10 * p + q) = 0
    · rw [if_pos c3]
      refine ⟨fun z => ?_, fun z => absurd c3 z.2⟩
      split at z <;> omega
    · rw [if_neg c3]
      refine ⟨fun _ => ⟨c4, c3⟩, fun _ => ?_⟩
      split <;> omega
  · rw [if_neg c4]
    refine ⟨fun z => ?_, fun z => absurd z.1 c4⟩
    split at z <;> omega
theorem bt_m {μ : Nat → Nat → Int32} {s p q : Nat} : bt μ s p q % 4 ≠ 3 := by
  unfold bt
  split
  · split <;> split <;> omega
  · split <;> omega
theorem bt_z {μ : Nat → Nat → Int32} {s p q : Nat} : bt μ s p q % 4 = 0 ↔ μ 3 (100 * s + 10 * p + q) = 0 ∧ μ 4 (100 * s + 10 * p + q) = 0 := by
  unfold bt
  by_cases c4 : μ 4 (100 * s + 10 * p + q) = 0
  · rw [if_pos c4]
    by_cases c3 : μ 3 (100 * s + 10 * p + q) = 0
    · rw [if_pos c3]
      refine ⟨fun _ => ⟨c3, c4⟩, fun _ => ?_⟩
      split <;> omega
    · rw [if_neg c3]
      refine ⟨fun z => ?_, fun z => absurd z.1 c3⟩
      split at z <;> omega
  · rw [if_neg c4]
    refine ⟨fun z => ?_, fun z => absurd z.2 c4⟩
    split at z <;> omega
/-- what isWell asks of a pair -/
theorem bt_well {μ : Nat → Nat → Int32} {s p q : Nat} (hI : I4 μ s 6) (hF : JF μ s) (hp : p < 6) (hq : q < 6) : (bt μ s p q < 4 ∨ (bt μ s p q = 4 ∧ (bt μ s q p = 0 ∨ bt μ s q p = 4))) ∧ (p = q → bt μ s p q = 0) ∧ (bt μ s p q % 4 = 1 ↔ ¬ μ 3 (100 * s + 10 * p + q) = 0) := by
  obtain ⟨a1, a2⟩ := hI p q (by omega) (by omega)
  obtain ⟨b1, b2⟩ := hI q p (by omega) (by omega)
  obtain ⟨f1, f2, f3⟩ := hF p q (by omega) (by omega)
  obtain ⟨g1, g2, g3⟩ := hF q p (by omega) (by omega)
  refine ⟨?_, fun e => ?_, ?_⟩
  · by_cases c5 : μ 5 (100 * s + 10 * p + q) = 0
    · exact Or.inl (bt_4.mpr c5)
    · right
      have c3 : μ 3 (100 * s + 10 * p + q) = 0 := Classical.byContradiction (fun z => c5 (a1 z).2.1)
      have c4 : μ 4 (100 * s + 10 * p + q) = 0 := Classical.byContradiction (fun z => c5 (f1 z).1)
      have d3 : μ 3 (100 * s + 10 * q + p) = 0 := Classical.byContradiction (fun z => c5 (b1 z).2.2)
      have d4 : μ 4 (100 * s + 10 * q + p) = 0 := Classical.byContradiction (fun z => c5 (g1 z).2.1)
      refine ⟨?_, ?_⟩
      · rw [bt, if_pos c4, if_pos c3, if_neg c5]
      · by_cases d5 : μ 5 (100 * s + 10 * q + p) = 0
        · exact Or.inl (bt_0.mpr ⟨d3, d4, d5⟩)
        · right; rw [bt, if_pos d4, if_pos d3, if_neg d5]
  · rw [bt_0]
    exact ⟨Classical.byContradiction (fun z => f2 z e), Classical.byContradiction (fun z => (f1 z).2.2 e), Classical.byContradiction (fun z => f3 z e)⟩
  · rw [bt_a]
    exact ⟨fun z => z.2, fun z => ⟨(a1 z).1, z⟩⟩
theorem cnt_6 {μ : Nat → Nat → Int32} {k s : Nat} (hz : ∀ a b, a < 10 → b < 10 → (6 ≤ a ∨ 6 ≤ b) → μ k (100 * s + 10 * a + b) = 0) : mKnR μ k s 100 100 = nI (sT (fun p => sT (fun q => if μ k (100 * s + 10 * p + q) = 0 then 0 else 1) 6) 6) := by
  have e : ∀ p q, 100 * s + 10 * p + q = 100 * s + (10 * p + q) := fun p q => Nat.add_assoc _ _ _
  rw [mKnR_sT, show sT (fun j => if μ k (100 * s + j) = 0 then 0 else 1) 100 = sT (fun j => if μ k (100 * s + j) = 0 then 0 else 1) (10 * 10) from rfl, sT_mul]
  congr 1
  rw [show (10 : Nat) = 6 + 4 from rfl, sT_zero (a := 6) 4 (fun p h1 h2 => ?_)]
  · refine sT_congr 6 (fun p hp => ?_)
    show sT (fun q => if μ k (100 * s + ((6 + 4) * p + q)) = 0 then 0 else 1) (6 + 4) = _
    rw [sT_zero (a := 6) 4 (fun q h1 h2 => ?_)]
    · refine sT_congr 6 (fun q hq => ?_)
      show (if μ k (100 * s + (10 * p + q)) = 0 then 0 else 1) = _
      rw [← e]
    · show (if μ k (100 * s + (10 * p + q)) = 0 then 0 else 1) = 0
      rw [← e, if_pos (hz p q (by omega) (by omega) (Or.inr h1))]
  · show sT (fun q => if μ k (100 * s + (10 * p + q)) = 0 then 0 else 1) 10 = 0
    have z : ∀ n, n ≤ 10 → sT (fun q => if μ k (100 * s + (10 * p + q)) = 0 then 0 else 1) n = 0 := fun n => by
      induction n with
      | zero => intro _; rfl
      | succ n ih =>
        intro hn
        rw [sT, ih (by omega)]
        show 0 + (if μ k (100 * s + (10 * p + n)) = 0 then 0 else 1) = 0
        rw [← e, if_pos (hz p n (by omega) (by omega) (Or.inl h1))]
    exact z 10 (Nat.le_refl _)
theorem ofs_T (μ : Nat → Nat → Int32) {s i : Nat} (hs : s < 4) (hi : i < 6) : mOfsT μ (nI s) (nI i) = 0 := by
  have i3 : mIn (nI s) 0 3 = true := mIn_nI (n := 4) (by omega) hs
  have i5 : mIn (nI i) 0 5 = true := mIn_nI (n := 6) (by omega) hi
  rw [mOfsT, i3, i5]
  rfl
theorem ofs_0 {μ : Nat → Nat → Int32} {s : Nat} (hs : s < 4) (h : tn (μ 24 s) ≤ tn (μ 25 s)) : mOfsR μ (nI s) (nI 0) = nI (tn (μ 25 s) - tn (μ 24 s)) := by
  rw [mOfsR, ofs_T μ hs (by omega), if_pos rfl, tn_nI (by omega), tn_nI (by omega), if_pos rfl]
  exact pk_sub h
theorem ofs_1 {μ : Nat → Nat → Int32} {s nc : Nat} (hs : s < 4) (h17 : μ 17 0 = nI nc) (hnc : nc < 512) : mOfsR μ (nI s) (nI 1) = nI (cD μ s nc) := by
  rw [mOfsR, ofs_T μ hs (by omega), if_pos rfl, tn_nI (by omega), tn_nI (by omega), if_neg (by omega), if_pos rfl, h17, tn_nI (by omega), cD_K]
theorem ofs_k {μ : Nat → Nat → Int32} {s i k : Nat} (hs : s < 4) (hk : (i = 4 ∧ k = 4) ∨ (i = 5 ∧ k = 3)) (hI : I4 μ s 6) : mOfsR μ (nI s) (nI i) = nI (sT (fun p => sT (fun q => if μ k (100 * s + 10 * p + q) = 0 then 0 else 1) 6) 6) := by
  have hz : ∀ a b, a < 10 → b < 10 → (6 ≤ a ∨ 6 ≤ b) → μ k (100 * s + 10 * a + b) = 0 := fun a b ha hb h => Classical.byContradiction (fun z => by
    have h2 := (hI a b ha hb).2
    rcases hk with ⟨-, rfl⟩ | ⟨-, rfl⟩
    · have := h2 (Or.inr z); omega
    · have := h2 (Or.inl z); omega)
  rw [mOfsR, ofs_T μ hs (by omega), if_pos rfl, tn_nI (by omega), tn_nI (by omega), if_neg (by omega), if_neg (by omega), mKn, if_neg (by omega), ← cnt_6 hz]
  rcases hk with ⟨rfl, rfl⟩ | ⟨rfl, rfl⟩
  · rw [if_pos rfl]
  · rw [if_neg (by decide)]
/-! who sees -/
theorem seen_apart {μ : Nat → Nat → Int32} {p n : Nat} (h : mSeen μ p n = true) : bt μ (tn (μ 2 p)) p (tn (μ 12 n)) < 4 ∧ bt μ (tn (μ 2 p)) (tn (μ 12 n)) p < 4 := by
  rw [bt_4, bt_4]
  rw [mSeen, mIsA] at h
  simp only [Bool.and_eq_true, Bool.not_eq_true', Bool.or_eq_false_iff, decide_eq_false_iff_not, Bool.not_eq_false', decide_eq_true_eq] at h
  exact h.1.2
theorem seen_gone {μ : Nat → Nat → Int32} {p n : Nat} (hM : JM μ) (hn : n < 50) (h4 : tn (μ 2 (tn (μ 12 n))) < 4) (hg : GN μ n) (hh : tn (μ 2 p) = tn (μ 2 (tn (μ 12 n)))) : mSeen μ p n = false := by
  have h7 := hM _ n h4 hn hg
  rw [mSeen, hh, h7]
  simp
theorem atH_seen {μ : Nat → Nat → Int32} {p n : Nat} (h : mAtH μ p n = true) : mSeen μ p n = true := by
  rw [mAtH, Bool.and_eq_true] at h
  exact h.2
theorem hom_0 (μ : Nat → Nat → Int32) (p : Nat) : ∀ n, mHomF μ p n (nI 0) = -1 ∨ ∃ j, j < n ∧ mAtH μ p j = true ∧ mHomF μ p n (nI 0) = nI j
  | 0 => Or.inl rfl
  | n + 1 => by
    rw [mHomF]
    by_cases c : mAtH μ p n = true
    · rw [if_pos c, if_pos (show nI 0 = 0 from rfl)]; exact Or.inr ⟨n, by omega, c, rfl⟩
    · rw [if_neg c]
      rcases hom_0 μ p n with h | ⟨j, h1, h2, h3⟩
      · exact Or.inl h
      · exact Or.inr ⟨j, by omega, h2, h3⟩
theorem hom_1 (μ : Nat → Nat → Int32) (p : Nat) : ∀ n, (mHomF μ p n (nI 0) = -1 ∧ mHomF μ p n (nI 1) = -1) ∨ ∃ j, j < n ∧ mAtH μ p j = true ∧ mHomF μ p n (nI 0) = nI j ∧ (mHomF μ p n (nI 1) = -1 ∨ ∃ i, i < j ∧ mAtH μ p i = true ∧ mHomF μ p n (nI 1) = nI i)
  | 0 => Or.inl ⟨rfl, rfl⟩
  | n + 1 => by
    rw [mHomF, mHomF]
    by_cases c : mAtH μ p n = true
    · rw [if_pos c, if_pos (show nI 0 = 0 from rfl), if_pos c, if_neg (show ¬ nI 1 = 0 by decide), show (nI 1 + Int32.ofInt (-1) : Int32) = nI 0 from by decide]
      refine Or.inr ⟨n, by omega, c, rfl, ?_⟩
      rcases hom_0 μ p n with h | ⟨j, h1, h2, h3⟩
      · exact Or.inl h
      · exact Or.inr ⟨j, h1, h2, h3⟩
    · rw [if_neg c, if_neg c]
      rcases hom_1 μ p n with h | ⟨j, h1, h2, h3, h4⟩
      · exact Or.inl h
      · exact Or.inr ⟨j, by omega, h2, h3, h4⟩
