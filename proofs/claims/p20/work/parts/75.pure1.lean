/-! p20: what holds between people at a server: who follows isn't apart, nobody is their own -/
def JF (μ : Nat → Nat → Int32) (i : Nat) : Prop := ∀ a b, a < 10 → b < 10 → (¬ μ 4 (100 * i + 10 * a + b) = 0 → μ 5 (100 * i + 10 * a + b) = 0 ∧ μ 5 (100 * i + 10 * b + a) = 0 ∧ a ≠ b) ∧ (¬ μ 3 (100 * i + 10 * a + b) = 0 → a ≠ b) ∧ (¬ μ 5 (100 * i + 10 * a + b) = 0 → a ≠ b)
theorem JF_s4 {μ μ' : Nat → Nat → Int32} {j : Nat} (h : JF μ j) (hs : s4 μ μ' j) : JF μ' j := fun a b ha hb => by
  rw [(hs.1 a b ha hb).1, (hs.1 a b ha hb).2.1, (hs.1 a b ha hb).2.2, (hs.1 b a hb ha).2.2]
  exact h a b ha hb
theorem JF_rows {μ μ' : Nat → Nat → Int32} {j : Nat} (h : JF μ j) (e3 : μ' 3 = μ 3) (e4 : μ' 4 = μ 4) (e5 : μ' 5 = μ 5) : JF μ' j := fun a b ha hb => by
  rw [e3, e4, e5]
  exact h a b ha hb
theorem JF_u3 {μ : Nat → Nat → Int32} {i p q : Nat} {v : Int32} (h : JF μ i) (hp : p < 10) (hq : q < 10) (hv : ¬ v = 0 → p ≠ q) : JF (va_up μ 3 (upd (μ 3) (100 * i + 10 * p + q) v)) i := fun a b ha hb => by
  obtain ⟨h1, h2, h3⟩ := h a b ha hb
  refine ⟨h1, ?_, h3⟩
  show ¬ upd (μ 3) (100 * i + 10 * p + q) v (100 * i + 10 * a + b) = 0 → a ≠ b
  rw [upd3 _ _ hp hq ha hb]
  by_cases e : a = p ∧ b = q
  · rw [if_pos e, e.1, e.2]; exact hv
  · rw [if_neg e]; exact h2
theorem JF_u4 {μ : Nat → Nat → Int32} {i p q : Nat} {v : Int32} (h : JF μ i) (hp : p < 10) (hq : q < 10) (hv : ¬ v = 0 → μ 5 (100 * i + 10 * p + q) = 0 ∧ μ 5 (100 * i + 10 * q + p) = 0 ∧ p ≠ q) : JF (va_up μ 4 (upd (μ 4) (100 * i + 10 * p + q) v)) i := fun a b ha hb => by
  obtain ⟨h1, h2, h3⟩ := h a b ha hb
  refine ⟨?_, h2, h3⟩
  show ¬ upd (μ 4) (100 * i + 10 * p + q) v (100 * i + 10 * a + b) = 0 → μ 5 (100 * i + 10 * a + b) = 0 ∧ μ 5 (100 * i + 10 * b + a) = 0 ∧ a ≠ b
  rw [upd3 _ _ hp hq ha hb]
  by_cases e : a = p ∧ b = q
  · rw [if_pos e, e.1, e.2]; exact hv
  · rw [if_neg e]; exact h1
theorem JF_fol {μ : Nat → Nat → Int32} {i p q : Nat} (h : JF μ i) (hp : p < 10) (hq : q < 10) (hpq : p ≠ q) (ha : ¬ mIsA μ i p q = true) : JF (mFol μ i p q) i := by
  have h5 : μ 5 (100 * i + 10 * p + q) = 0 ∧ μ 5 (100 * i + 10 * q + p) = 0 := by
    rw [mIsA] at ha
    by_cases c : μ 5 (100 * i + 10 * p + q) = 0
    · by_cases d : μ 5 (100 * i + 10 * q + p) = 0
      · exact ⟨c, d⟩
      · exact absurd (by simp [d]) ha
    · exact absurd (by simp [c]) ha
  rw [mFol]
  exact JF_u3 (JF_u4 h hp hq (fun _ => ⟨h5.1, h5.2, hpq⟩)) hp hq (fun z => absurd rfl z)
theorem JF_par {μ : Nat → Nat → Int32} {i p q : Nat} (h : JF μ i) (hp : p < 10) (hq : q < 10) : JF (mPar μ i p q) i := by
  rw [mPar]
  exact JF_u3 (JF_u4 h hp hq (fun z => absurd rfl z)) hp hq (fun z => absurd rfl z)
theorem JF_mov {μ : Nat → Nat → Int32} {i p q : Nat} {td : Int32} (h : JF μ i) (hp : p < 10) (hq : q < 10) : ∀ n, n ≤ 10 → JF (mMov μ i p q td n) i
  | 0, _ => h
  | n + 1, hn => by
    have ih := JF_mov (td := td) h hp hq n (by omega)
    have i4 := JF_u4 (v := 0) ih (show n < 10 by omega) hp (fun z => absurd rfl z)
    rw [mMov]
    split
    · rw [mMov1]
      split
      · exact i4
      · rename_i c
        exact JF_fol i4 (by omega) hq (fun z => c (Or.inl z)) (fun z => c (Or.inr z))
    · exact ih
theorem JF_do {μ : Nat → Nat → Int32} {i k p q : Nat} {td : Int32} (h : JF μ i) (hp : p < 10) (hq : q < 10) (hpq : p ≠ q) (hn : tn (μ 1 0) ≤ 10) : JF (mDo1 μ i k p q td) i := by
  rw [mDo1]
  split
  · exact JF_u3 h hp hq (fun _ => hpq)
  split
  · split
    · exact h
    · rename_i c
      exact JF_fol h hq hp (Ne.symm hpq) (fun z => c (Or.inr (by rw [mIsA_sym]; exact z)))
  split
  · exact JF_u3 h hq hp (fun z => absurd rfl z)
  split
  · exact JF_par h hp hq
  split
  · exact JF_rows h rfl rfl rfl
  split
  · exact JF_mov h hp hq _ hn
  split
  · intro a b ha hb
    show (¬ upd (upd (μ 4) (100 * i + 10 * p + q) 0) (100 * i + 10 * q + p) 0 (100 * i + 10 * a + b) = 0 → upd (μ 5) (100 * i + 10 * p + q) 1 (100 * i + 10 * a + b) = 0 ∧ upd (μ 5) (100 * i + 10 * p + q) 1 (100 * i + 10 * b + a) = 0 ∧ a ≠ b) ∧ (¬ upd (upd (μ 3) (100 * i + 10 * p + q) 0) (100 * i + 10 * q + p) 0 (100 * i + 10 * a + b) = 0 → a ≠ b) ∧ (¬ upd (μ 5) (100 * i + 10 * p + q) 1 (100 * i + 10 * a + b) = 0 → a ≠ b)
    rw [upd3 _ _ hq hp ha hb, upd3 _ _ hp hq ha hb, upd3 _ _ hp hq ha hb, upd3 _ _ hp hq hb ha, upd3 _ _ hq hp ha hb, upd3 _ _ hp hq ha hb]
    obtain ⟨h1, h2, h3⟩ := h a b ha hb
    by_cases e1 : a = q ∧ b = p
    · obtain ⟨rfl, rfl⟩ := e1
      exact ⟨fun z => absurd (if_pos ⟨rfl, rfl⟩) z, fun _ => Ne.symm hpq, fun _ => Ne.symm hpq⟩
    · by_cases e2 : a = p ∧ b = q
      · obtain ⟨rfl, rfl⟩ := e2
        exact ⟨fun z => absurd (by rw [if_neg e1, if_pos ⟨rfl, rfl⟩]) z, fun _ => hpq, fun _ => hpq⟩
      · rw [if_neg e1, if_neg e2, if_neg e2, if_neg (fun z => e1 ⟨z.2, z.1⟩), if_neg e1, if_neg e2]
        exact ⟨h1, h2, h3⟩
  · intro a b ha hb
    show (¬ μ 4 (100 * i + 10 * a + b) = 0 → upd (μ 5) (100 * i + 10 * p + q) 0 (100 * i + 10 * a + b) = 0 ∧ upd (μ 5) (100 * i + 10 * p + q) 0 (100 * i + 10 * b + a) = 0 ∧ a ≠ b) ∧ (¬ μ 3 (100 * i + 10 * a + b) = 0 → a ≠ b) ∧ (¬ upd (μ 5) (100 * i + 10 * p + q) 0 (100 * i + 10 * a + b) = 0 → a ≠ b)
    rw [upd3 _ _ hp hq ha hb, upd3 _ _ hp hq hb ha]
    obtain ⟨h1, h2, h3⟩ := h a b ha hb
    refine ⟨fun z => ?_, h2, fun z => ?_⟩
    · obtain ⟨h5, h6, h7⟩ := h1 z
      refine ⟨?_, ?_, h7⟩
      · split
        · rfl
        · exact h5
      · split
        · rfl
        · exact h6
    · by_cases e : a = p ∧ b = q
      · rw [if_pos e] at z; exact absurd rfl z
      · rw [if_neg e] at z; exact h3 z
