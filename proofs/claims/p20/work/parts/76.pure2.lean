/-! p20: what an act that is done sends on, and what it writes -/
/-- at s the post n is sent on -/
def tq (μ : Nat → Nat → Int32) (s n : Nat) : Prop := ¬ (¬ μ 13 n = 0 ∨ μ 15 n < 0 ∨ ¬ tn (μ 2 (tn (μ 12 (tn (μ 15 n))))) = s)
def tr (μ : Nat → Nat → Int32) (s a : Nat) : Prop := (tn (μ 18 a) = 8 ∨ tn (μ 18 a) = 9) ∧ tq μ s (tn (μ 20 a))
def J9 (μ : Nat → Nat → Int32) (nn : Nat) : Prop := ∀ n s, n < nn → s < 4 → kHas (μ 9 (50 * s + n)) s = false ∧ kHas (μ 9 (50 * s + n)) (tn (μ 2 (tn (μ 12 n)))) = false ∧ (¬ tq μ s n → μ 9 (50 * s + n) = 0)
def J16 (μ : Nat → Nat → Int32) (nn : Nat) : Prop := ∀ n, n < nn → tn (μ 12 n) < 6 ∧ kHas (μ 16 n) (tn (μ 2 (tn (μ 12 n)))) = false
theorem tq_rows {μ μ' : Nat → Nat → Int32} (e2 : μ' 2 = μ 2) (e12 : μ' 12 = μ 12) (e13 : μ' 13 = μ 13) (e15 : μ' 15 = μ 15) (s n : Nat) : tq μ' s n = tq μ s n := by
  unfold tq
  rw [e2, e12, e13, e15]
theorem tr_rows {μ μ' : Nat → Nat → Int32} (e2 : μ' 2 = μ 2) (e12 : μ' 12 = μ 12) (e13 : μ' 13 = μ 13) (e15 : μ' 15 = μ 15) (e18 : μ' 18 = μ 18) (e20 : μ' 20 = μ 20) (s a : Nat) : tr μ' s a = tr μ s a := by
  unfold tr
  rw [e18, e20, tq_rows e2 e12 e13 e15]
theorem J9_rows {μ μ' : Nat → Nat → Int32} {nn : Nat} (h : J9 μ nn) (e2 : μ' 2 = μ 2) (e12 : μ' 12 = μ 12) (e13 : μ' 13 = μ 13) (e15 : μ' 15 = μ 15) (e9 : μ' 9 = μ 9) : J9 μ' nn := fun n s hn hs => by
  rw [e9, e2, e12, tq_rows e2 e12 e13 e15]
  exact h n s hn hs
theorem mSet_s (μ : Nat → Nat → Int32) {s : Nat} (hs : s < 32) (n : Nat) : kHas (mSet μ s n) s = false := by
  rw [mSet, kHas_and _ _ hs, kHas_and _ _ hs, mSrv, show ((1 : Int32) <<< (nI s &&& 31)) = kBit s from rfl, kHas_andn _ _ hs, kHas_bit hs hs]
  simp
theorem mSet_h (μ : Nat → Nat → Int32) (s n : Nat) (hh : tn (μ 2 (tn (μ 12 n))) < 32) : kHas (mSet μ s n) (tn (μ 2 (tn (μ 12 n)))) = false := by
  rw [mSet, kHas_and _ _ hh, show ((1 : Int32) <<< (nI (tn (μ 2 (tn (μ 12 n)))) &&& 31)) = kBit (tn (μ 2 (tn (μ 12 n)))) from rfl, kHas_andn _ _ hh, kHas_bit hh hh]
  simp
theorem DO_form {μ : Nat → Nat → Int32} {s a nn : Nat} (h9 : J9 μ nn) (hq : 8 ≤ tn (μ 18 a) → tn (μ 20 a) < nn) (hs : s < 4) (hh : ∀ n, n < nn → tn (μ 2 (tn (μ 12 n))) < 32) : ∃ (M : Nat → Nat → Int32) (sv : Int32), mDo μ s a = mSnd M (nI a) sv 4 ∧ kHas sv s = false ∧ (M 23 = μ 23 ∧ M 24 = μ 24 ∧ M 25 = μ 25) ∧ (¬ tr μ s a → sv = 0) ∧ (M 9 = μ 9 ∨ ∃ v, 8 ≤ tn (μ 18 a) ∧ M 9 = upd (μ 9) (50 * s + tn (μ 20 a)) v ∧ tq μ s (tn (μ 20 a)) ∧ kHas v s = false ∧ kHas v (tn (μ 2 (tn (μ 12 (tn (μ 20 a)))))) = false) := by
  have w : ∀ k, k ≠ 22 → mW μ s a k = μ k := fun k hk => va_up_ne _ _ hk
  by_cases c : 8 ≤ tn (μ 18 a)
  · rw [mDo, if_pos c]
    show ∃ (M : Nat → Nat → Int32) (sv : Int32), mDoP (mW μ s a) s a = mSnd M (nI a) sv 4 ∧ _
    rw [mDoP, w 18 (by decide), w 20 (by decide)]
    have hn := hq c
    by_cases c8 : tn (μ 18 a) = 8
    · rw [if_pos c8, mSdo]
      split
      · exact ⟨_, 0, (mSnd_0 _ _ 4 (by omega)).symm, kHas_0 (by omega), ⟨rfl, rfl, rfl⟩, fun _ => rfl, Or.inl rfl⟩
      · rename_i cc
        refine ⟨_, _, rfl, mSet_s _ (by omega) _, ⟨rfl, rfl, rfl⟩, fun z => absurd (show tr μ s a from ⟨Or.inl c8, cc⟩) z, Or.inr ⟨_, c, va_up_self _ _ _, cc, mSet_s _ (by omega) _, ?_⟩⟩
        exact mSet_h _ s (tn (μ 20 a)) (hh _ hn)
    · rw [if_neg c8]
      by_cases c9 : tn (μ 18 a) = 9
      · rw [if_pos c9]
        split
        · exact ⟨_, 0, (mSnd_0 _ _ 4 (by omega)).symm, kHas_0 (by omega), ⟨rfl, rfl, rfl⟩, fun _ => rfl, Or.inl rfl⟩
        · exact ⟨_, _, rfl, (h9 _ s hn hs).1, ⟨rfl, rfl, rfl⟩, fun z => (h9 _ s hn hs).2.2 (fun q => z ⟨Or.inr c9, q⟩), Or.inl rfl⟩
      · rw [if_neg c9]
        exact ⟨_, 0, (mSnd_0 _ _ 4 (by omega)).symm, kHas_0 (by omega), ⟨rfl, rfl, rfl⟩, fun _ => rfl, Or.inl rfl⟩
  · rw [mDo, if_neg c]
    refine ⟨mDo1 (mW μ s a) s (tn (μ 18 a)) (tn (μ 19 a)) (tn (μ 20 a)) (μ 21 a), 0, (mSnd_0 _ _ 4 (by omega)).symm, kHas_0 (by omega), ⟨?_, ?_, ?_⟩, fun _ => rfl, Or.inl ?_⟩
    · rw [mDo1_k _ _ _ _ _ _ (by decide) (by decide) (by decide) (by decide)]; exact w 23 (by decide)
    · rw [mDo1_k _ _ _ _ _ _ (by decide) (by decide) (by decide) (by decide)]; exact w 24 (by decide)
    · rw [mDo1_k _ _ _ _ _ _ (by decide) (by decide) (by decide) (by decide)]; exact w 25 (by decide)
    · rw [mDo1_k _ _ _ _ _ _ (by decide) (by decide) (by decide) (by decide)]; exact w 9 (by decide)
theorem do_k (μ : Nat → Nat → Int32) (s a : Nat) {k : Nat} (h : k = 0 ∨ k = 1 ∨ k = 2 ∨ k = 11 ∨ k = 12 ∨ k = 13 ∨ k = 14 ∨ k = 15 ∨ k = 16 ∨ k = 17 ∨ k = 18 ∨ k = 19 ∨ k = 20 ∨ k = 21 ∨ k = 24) : mDo μ s a k = μ k := mDo_k μ s a (by omega) (by omega) (by omega) (by omega) (by omega) (by omega) (by omega) (by omega) (by omega) (by omega) (by omega)
theorem do_22 (μ : Nat → Nat → Int32) (s a : Nat) : mDo μ s a 22 = upd (μ 22) (600 * s + a) 1 := by
  rw [mDo]
  split
  · rw [mDoP_k _ _ _ (by decide) (by decide) (by decide) (by decide) (by decide) (by decide)]; exact va_up_self _ _ _
  · rw [mDo1_k _ _ _ _ _ _ (by decide) (by decide) (by decide) (by decide)]; exact va_up_self _ _ _
theorem do_lo {μ : Nat → Nat → Int32} {s a : Nat} (h : tn (μ 18 a) < 8) {k : Nat} (hk : k = 7 ∨ k = 8 ∨ k = 10) : mDo μ s a k = μ k := by
  rw [mDo, if_neg (by omega), mDo1_k _ _ _ _ _ _ (by omega) (by omega) (by omega) (by omega)]
  exact va_up_ne _ _ (by omega)
theorem do_hi {μ : Nat → Nat → Int32} {s a : Nat} (h : 8 ≤ tn (μ 18 a)) {k : Nat} (hk : k = 3 ∨ k = 4 ∨ k = 5 ∨ k = 6) : mDo μ s a k = μ k := by
  rw [mDo, if_pos h, mDoP_k _ _ _ (by omega) (by omega) (by omega) (by omega) (by omega) (by omega)]
  exact va_up_ne _ _ (by omega)
theorem do_8 {μ : Nat → Nat → Int32} {s a : Nat} (h : tn (μ 18 a) = 8) : mDo μ s a 7 = upd (μ 7) (50 * s + tn (μ 20 a)) (bI (decide (μ 8 (50 * s + tn (μ 20 a)) = 0))) ∧ mDo μ s a 8 = μ 8 ∧ mDo μ s a 10 = μ 10 := by
  have w : ∀ k, k ≠ 22 → mW μ s a k = μ k := fun k hk => va_up_ne _ _ hk
  have e : mDo μ s a = mSdo (va_up (mW μ s a) 7 (upd (mW μ s a 7) (50 * s + tn (μ 20 a)) (bI (decide (mW μ s a 8 (50 * s + tn (μ 20 a)) = 0))))) s (nI a) (tn (μ 20 a)) := by
    rw [mDo, if_pos (by omega)]
    show mDoP (mW μ s a) s a = _
    rw [mDoP, w 18 (by decide), w 20 (by decide), if_pos h]
  rw [e, mSdo_k _ _ _ _ (by decide) (by decide) (by decide), mSdo_k _ _ _ _ (by decide) (by decide) (by decide), mSdo_k _ _ _ _ (by decide) (by decide) (by decide)]
  exact ⟨va_up_self _ _ _, rfl, rfl⟩
theorem do_9 {μ : Nat → Nat → Int32} {s a : Nat} (h : tn (μ 18 a) = 9) : mDo μ s a 7 = upd (μ 7) (50 * s + tn (μ 20 a)) 0 ∧ mDo μ s a 8 = upd (μ 8) (50 * s + tn (μ 20 a)) 1 ∧ mDo μ s a 10 = μ 10 := by
  have w : ∀ k, k ≠ 22 → mW μ s a k = μ k := fun k hk => va_up_ne _ _ hk
  rw [mDo, if_pos (by omega)]
  show mDoP (mW μ s a) s a 7 = _ ∧ mDoP (mW μ s a) s a 8 = _ ∧ mDoP (mW μ s a) s a 10 = _
  rw [mDoP, w 18 (by decide), w 20 (by decide), if_neg (by omega), if_pos h]
  split
  · exact ⟨rfl, rfl, rfl⟩
  · rw [mSnd_k _ _ _ (by decide) (by decide), mSnd_k _ _ _ (by decide) (by decide), mSnd_k _ _ _ (by decide) (by decide)]
    exact ⟨rfl, rfl, rfl⟩
theorem do_10 {μ : Nat → Nat → Int32} {s a : Nat} (h : 9 < tn (μ 18 a)) : mDo μ s a 7 = upd (μ 7) (50 * s + tn (μ 20 a)) (bI (decide (μ 8 (50 * s + tn (μ 20 a)) = 0))) ∧ mDo μ s a 8 = μ 8 ∧ mDo μ s a 10 = upd (μ 10) (500 * s + 50 * tn (μ 19 a) + tn (μ 20 a)) 1 := by
  have w : ∀ k, k ≠ 22 → mW μ s a k = μ k := fun k hk => va_up_ne _ _ hk
  rw [mDo, if_pos (by omega)]
  show mDoP (mW μ s a) s a 7 = _ ∧ mDoP (mW μ s a) s a 8 = _ ∧ mDoP (mW μ s a) s a 10 = _
  rw [mDoP, w 18 (by decide), w 20 (by decide), w 19 (by decide), if_neg (by omega), if_neg (by omega)]
  exact ⟨rfl, rfl, rfl⟩
/-- marked: not known -/
def JM (μ : Nat → Nat → Int32) : Prop := ∀ s n, s < 4 → n < 50 → ¬ μ 8 (50 * s + n) = 0 → μ 7 (50 * s + n) = 0
theorem JM_rows {μ μ' : Nat → Nat → Int32} (h : JM μ) (e7 : μ' 7 = μ 7) (e8 : μ' 8 = μ 8) : JM μ' := fun s n hs hn => by
  rw [e7, e8]
  exact h s n hs hn
theorem JM_do {μ : Nat → Nat → Int32} {s a : Nat} (h : JM μ) (hq : 8 ≤ tn (μ 18 a) → tn (μ 20 a) < 50) : JM (mDo μ s a) := by
  by_cases c : tn (μ 18 a) < 8
  · exact JM_rows h (do_lo c (Or.inl rfl)) (do_lo c (Or.inr (Or.inl rfl)))
  · have hn := hq (by omega)
    intro i n hi hn2
    have up : ∀ v : Int32, (v = 0 ∨ μ 8 (50 * s + tn (μ 20 a)) = 0) → ¬ μ 8 (50 * i + n) = 0 → upd (μ 7) (50 * s + tn (μ 20 a)) v (50 * i + n) = 0 := fun v hv z => by
      by_cases e : 50 * i + n = 50 * s + tn (μ 20 a)
      · rw [e] at z ⊢
        rw [upd_same]
        exact hv.resolve_right z
      · rw [upd_ne _ _ e]; exact h i n hi hn2 z
    have hb : bI (decide (μ 8 (50 * s + tn (μ 20 a)) = 0)) = 0 ∨ μ 8 (50 * s + tn (μ 20 a)) = 0 := by
      by_cases d : μ 8 (50 * s + tn (μ 20 a)) = 0
      · exact Or.inr d
      · exact Or.inl (by rw [decide_eq_false d]; rfl)
    by_cases c8 : tn (μ 18 a) = 8
    · obtain ⟨e7, e8, -⟩ := do_8 (s := s) c8
      rw [e7, e8]
      exact up _ hb
    · by_cases c9 : tn (μ 18 a) = 9
      · obtain ⟨e7, e8, -⟩ := do_9 (s := s) c9
        rw [e7, e8]
        intro z
        by_cases e : 50 * i + n = 50 * s + tn (μ 20 a)
        · rw [e, upd_same]
        · rw [upd_ne _ _ e] at z ⊢
          exact h i n hi hn2 z
      · obtain ⟨e7, e8, -⟩ := do_10 (s := s) (show 9 < tn (μ 18 a) by omega)
        rw [e7, e8]
        exact up _ hb
theorem J9_do {μ : Nat → Nat → Int32} {s a nn : Nat} (h9 : J9 μ nn) (hnn : nn ≤ 50) (hq : 8 ≤ tn (μ 18 a) → tn (μ 20 a) < nn) (hs : s < 4) (hh : ∀ n, n < nn → tn (μ 2 (tn (μ 12 n))) < 32) : J9 (mDo μ s a) nn := by
  obtain ⟨M, sv, e, -, -, -, h⟩ := DO_form h9 hq hs hh
  have e9 : mDo μ s a 9 = M 9 := by rw [e, mSnd_k _ _ _ (by decide) (by decide)]
  intro n i hn hi
  rw [e9, do_k μ s a (k := 2) (by decide), do_k μ s a (k := 12) (by decide), tq_rows (do_k μ s a (k := 2) (by decide)) (do_k μ s a (k := 12) (by decide)) (do_k μ s a (k := 13) (by decide)) (do_k μ s a (k := 15) (by decide))]
  rcases h with h | ⟨v, h0, h1, h2, h3, h4⟩
  · rw [h]; exact h9 n i hn hi
  · rw [h1]
    have hn2 := hq h0
    by_cases c : 50 * i + n = 50 * s + tn (μ 20 a)
    · have c1 : i = s := by omega
      have c2 : n = tn (μ 20 a) := by omega
      subst c1
      rw [c2, upd_same]
      exact ⟨h3, h4, fun z => absurd h2 z⟩
    · rw [upd_ne _ _ c]; exact h9 n i hn hi
