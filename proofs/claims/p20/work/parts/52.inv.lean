/-! what holds of the reference between people, server by server -/
def s4 (μ μ' : Nat → Nat → Int32) (j : Nat) : Prop := (∀ a b, a < 10 → b < 10 → μ' 3 (100 * j + 10 * a + b) = μ 3 (100 * j + 10 * a + b) ∧ μ' 4 (100 * j + 10 * a + b) = μ 4 (100 * j + 10 * a + b) ∧ μ' 5 (100 * j + 10 * a + b) = μ 5 (100 * j + 10 * a + b)) ∧ ∀ a, a < 10 → μ' 6 (10 * j + a) = μ 6 (10 * j + a)
theorem s4_rf (μ : Nat → Nat → Int32) (j : Nat) : s4 μ μ j := ⟨fun _ _ _ _ => ⟨rfl, rfl, rfl⟩, fun _ _ => rfl⟩
theorem s4_tr {μ μ1 μ2 : Nat → Nat → Int32} {j : Nat} (h : s4 μ μ1 j) (h2 : s4 μ1 μ2 j) : s4 μ μ2 j := ⟨fun a b ha hb => ⟨((h2.1 a b ha hb).1).trans (h.1 a b ha hb).1, ((h2.1 a b ha hb).2.1).trans (h.1 a b ha hb).2.1, ((h2.1 a b ha hb).2.2).trans (h.1 a b ha hb).2.2⟩, fun a ha => (h2.2 a ha).trans (h.2 a ha)⟩
theorem s4_rows {μ μ' : Nat → Nat → Int32} {j : Nat} (h3 : μ' 3 = μ 3) (h4 : μ' 4 = μ 4) (h5 : μ' 5 = μ 5) (h6 : μ' 6 = μ 6) : s4 μ μ' j := ⟨fun a b _ _ => by rw [h3, h4, h5]; exact ⟨rfl, rfl, rfl⟩, fun a _ => by rw [h6]⟩
theorem s4_fol {μ : Nat → Nat → Int32} {i j p q : Nat} (hij : j ≠ i) (hp : p < 10) (hq : q < 10) : s4 μ (mFol μ i p q) j := ⟨fun a b ha hb => ⟨upd3o (μ 3) 0 hp hq ha hb hij, upd3o (μ 4) 1 hp hq ha hb hij, rfl⟩, fun _ _ => rfl⟩
theorem s4_par {μ : Nat → Nat → Int32} {i j p q : Nat} (hij : j ≠ i) (hp : p < 10) (hq : q < 10) : s4 μ (mPar μ i p q) j := ⟨fun a b ha hb => ⟨upd3o (μ 3) 0 hp hq ha hb hij, upd3o (μ 4) 0 hp hq ha hb hij, rfl⟩, fun _ _ => rfl⟩
theorem s4_u3 {μ : Nat → Nat → Int32} {i j p q : Nat} (v : Int32) (hij : j ≠ i) (hp : p < 10) (hq : q < 10) : s4 μ (va_up μ 3 (upd (μ 3) (100 * i + 10 * p + q) v)) j := ⟨fun a b ha hb => ⟨upd3o (μ 3) v hp hq ha hb hij, rfl, rfl⟩, fun _ _ => rfl⟩
theorem s4_u4 {μ : Nat → Nat → Int32} {i j p q : Nat} (v : Int32) (hij : j ≠ i) (hp : p < 10) (hq : q < 10) : s4 μ (va_up μ 4 (upd (μ 4) (100 * i + 10 * p + q) v)) j := ⟨fun a b ha hb => ⟨rfl, upd3o (μ 4) v hp hq ha hb hij, rfl⟩, fun _ _ => rfl⟩
theorem s4_u5 {μ : Nat → Nat → Int32} {i j p q : Nat} (v : Int32) (hij : j ≠ i) (hp : p < 10) (hq : q < 10) : s4 μ (va_up μ 5 (upd (μ 5) (100 * i + 10 * p + q) v)) j := ⟨fun a b ha hb => ⟨rfl, rfl, upd3o (μ 5) v hp hq ha hb hij⟩, fun _ _ => rfl⟩
theorem s4_mov1 {μ : Nat → Nat → Int32} {i j p q f : Nat} (hij : j ≠ i) (hp : p < 10) (hq : q < 10) (hf : f < 10) : s4 μ (mMov1 μ i p q f) j := by
  rw [mMov1]
  split
  · exact s4_u4 0 hij hf hp
  · exact s4_tr (s4_u4 0 hij hf hp) (s4_fol hij hf hq)
theorem s4_mov {μ : Nat → Nat → Int32} {i j p q : Nat} {td : Int32} (hij : j ≠ i) (hp : p < 10) (hq : q < 10) : ∀ n, n ≤ 10 → s4 μ (mMov μ i p q td n) j
  | 0, _ => s4_rf μ j
  | n + 1, hn => by
    have ih := s4_mov (μ := μ) (td := td) hij hp hq n (by omega)
    rw [mMov]
    split
    · exact s4_tr ih (s4_mov1 hij hp hq (by omega))
    · exact ih
theorem s4_do {μ : Nat → Nat → Int32} {i j k p q : Nat} {td : Int32} (hij : j ≠ i) (hp : p < 10) (hq : q < 10) (hn : tn (μ 1 0) ≤ 10) : s4 μ (mDo1 μ i k p q td) j := by
  rw [mDo1]
  split
  · exact s4_u3 _ hij hp hq
  split
  · split
    · exact s4_rf μ j
    · exact s4_fol hij hq hp
  split
  · exact s4_u3 _ hij hq hp
  split
  · exact s4_par hij hp hq
  split
  · refine ⟨fun _ _ _ _ => ⟨rfl, rfl, rfl⟩, fun a ha => ?_⟩
    show upd (μ 6) (10 * i + p) (nI (q + 1)) (10 * j + a) = μ 6 (10 * j + a)
    exact upd_ne _ _ (by omega)
  split
  · exact s4_mov hij hp hq _ hn
  split
  · exact s4_tr (s4_u5 1 hij hp hq) (s4_tr (s4_par hij hp hq) (s4_par hij hq hp))
  · exact s4_u5 0 hij hp hq
theorem r4_s4 {κ μ μ' : Nat → Nat → Int32} {j : Nat} (h : r4 κ μ j) (hs : s4 μ μ' j) : r4 κ μ' j := ⟨⟨fun a b ha hb => by rw [(hs.1 a b ha hb).1]; exact h.1.1 a b ha hb, h.1.2⟩, ⟨fun a b ha hb => by rw [(hs.1 a b ha hb).2.1]; exact h.2.1.1 a b ha hb, h.2.1.2⟩, ⟨fun a b ha hb => by rw [(hs.1 a b ha hb).2.2]; exact h.2.2.1.1 a b ha hb, h.2.2.1.2⟩, fun a b ha hb => by rw [hs.2 a ha]; exact h.2.2.2 a b ha hb⟩
/-- who asks doesn't follow and isn't apart; only people ask and follow -/
def I4 (μ : Nat → Nat → Int32) (i np : Nat) : Prop := ∀ a b, a < 10 → b < 10 → (¬ μ 3 (100 * i + 10 * a + b) = 0 → μ 4 (100 * i + 10 * a + b) = 0 ∧ μ 5 (100 * i + 10 * a + b) = 0 ∧ μ 5 (100 * i + 10 * b + a) = 0) ∧ (¬ μ 3 (100 * i + 10 * a + b) = 0 ∨ ¬ μ 4 (100 * i + 10 * a + b) = 0 → a < np ∧ b < np)
theorem I4_apart {μ : Nat → Nat → Int32} {i np : Nat} (h : I4 μ i np) : ∀ a b, a < 10 → b < 10 → ¬ μ 3 (100 * i + 10 * a + b) = 0 → mIsA μ i a b = false := fun a b ha hb h3 => by
  obtain ⟨-, h5, h6⟩ := (h a b ha hb).1 h3
  rw [mIsA, h5, h6]
  rfl
theorem I4_s4 {μ μ' : Nat → Nat → Int32} {j np : Nat} (h : I4 μ j np) (hs : s4 μ μ' j) : I4 μ' j np := fun a b ha hb => by
  rw [(hs.1 a b ha hb).1, (hs.1 a b ha hb).2.1, (hs.1 a b ha hb).2.2, (hs.1 b a hb ha).2.2]
  exact h a b ha hb
theorem I4_mono {μ : Nat → Nat → Int32} {j np n2 : Nat} (h : I4 μ j np) (hn : np ≤ n2) : I4 μ j n2 := fun a b ha hb => ⟨(h a b ha hb).1, fun z => by have := (h a b ha hb).2 z; omega⟩
theorem I4_u34 {μ : Nat → Nat → Int32} {i np p q : Nat} {v w : Int32} (h : I4 μ i np) (hp : p < 10) (hq : q < 10) (hv : ¬ v = 0 → w = 0 ∧ μ 5 (100 * i + 10 * p + q) = 0 ∧ μ 5 (100 * i + 10 * q + p) = 0) (hb : ¬ v = 0 ∨ ¬ w = 0 → p < np ∧ q < np) : I4 (va_up (va_up μ 4 (upd (μ 4) (100 * i + 10 * p + q) w)) 3 (upd (μ 3) (100 * i + 10 * p + q) v)) i np := fun a b ha hb2 => by
  show (¬ upd (μ 3) (100 * i + 10 * p + q) v (100 * i + 10 * a + b) = 0 → upd (μ 4) (100 * i + 10 * p + q) w (100 * i + 10 * a + b) = 0 ∧ μ 5 (100 * i + 10 * a + b) = 0 ∧ μ 5 (100 * i + 10 * b + a) = 0) ∧ (¬ upd (μ 3) (100 * i + 10 * p + q) v (100 * i + 10 * a + b) = 0 ∨ ¬ upd (μ 4) (100 * i + 10 * p + q) w (100 * i + 10 * a + b) = 0 → a < np ∧ b < np)
  rw [upd3 _ _ hp hq ha hb2, upd3 _ _ hp hq ha hb2]
  by_cases e : a = p ∧ b = q
  · rw [if_pos e, if_pos e, e.1, e.2]; exact ⟨hv, hb⟩
  · rw [if_neg e, if_neg e]; exact h a b ha hb2
theorem I4_u3 {μ : Nat → Nat → Int32} {i np p q : Nat} {v : Int32} (h : I4 μ i np) (hp : p < 10) (hq : q < 10) (hv : ¬ v = 0 → μ 4 (100 * i + 10 * p + q) = 0 ∧ μ 5 (100 * i + 10 * p + q) = 0 ∧ μ 5 (100 * i + 10 * q + p) = 0) (hb : ¬ v = 0 → p < np ∧ q < np) : I4 (va_up μ 3 (upd (μ 3) (100 * i + 10 * p + q) v)) i np := fun a b ha hb2 => by
  show (¬ upd (μ 3) (100 * i + 10 * p + q) v (100 * i + 10 * a + b) = 0 → μ 4 (100 * i + 10 * a + b) = 0 ∧ μ 5 (100 * i + 10 * a + b) = 0 ∧ μ 5 (100 * i + 10 * b + a) = 0) ∧ (¬ upd (μ 3) (100 * i + 10 * p + q) v (100 * i + 10 * a + b) = 0 ∨ ¬ μ 4 (100 * i + 10 * a + b) = 0 → a < np ∧ b < np)
  rw [upd3 _ _ hp hq ha hb2]
  by_cases e : a = p ∧ b = q
  · rw [if_pos e, e.1, e.2]
    refine ⟨hv, fun z => ?_⟩
    rcases z with z | z
    · exact hb z
    · exact (h p q hp hq).2 (Or.inr z)
  · rw [if_neg e]; exact h a b ha hb2
theorem I4_u4c {μ : Nat → Nat → Int32} {i np p q : Nat} (h : I4 μ i np) (hp : p < 10) (hq : q < 10) : I4 (va_up μ 4 (upd (μ 4) (100 * i + 10 * p + q) 0)) i np := fun a b ha hb2 => by
  show (¬ μ 3 (100 * i + 10 * a + b) = 0 → upd (μ 4) (100 * i + 10 * p + q) 0 (100 * i + 10 * a + b) = 0 ∧ μ 5 (100 * i + 10 * a + b) = 0 ∧ μ 5 (100 * i + 10 * b + a) = 0) ∧ (¬ μ 3 (100 * i + 10 * a + b) = 0 ∨ ¬ upd (μ 4) (100 * i + 10 * p + q) 0 (100 * i + 10 * a + b) = 0 → a < np ∧ b < np)
  rw [upd3 _ _ hp hq ha hb2]
  have h0 := h a b ha hb2
  by_cases e : a = p ∧ b = q
  · rw [if_pos e]
    exact ⟨fun z => ⟨rfl, (h0.1 z).2⟩, fun z => h0.2 (Or.inl (z.resolve_right (fun y => y rfl)))⟩
  · rw [if_neg e]; exact h0
theorem I4_fol {μ : Nat → Nat → Int32} {i np p q : Nat} (h : I4 μ i np) (hp : p < 10) (hq : q < 10) (hpn : p < np) (hqn : q < np) : I4 (mFol μ i p q) i np := I4_u34 h hp hq (fun z => absurd rfl z) (fun _ => ⟨hpn, hqn⟩)
theorem I4_par {μ : Nat → Nat → Int32} {i np p q : Nat} (h : I4 μ i np) (hp : p < 10) (hq : q < 10) : I4 (mPar μ i p q) i np := I4_u34 h hp hq (fun z => absurd rfl z) (fun z => absurd rfl (z.elim id id))
theorem I4_mov {μ : Nat → Nat → Int32} {i np p q : Nat} {td : Int32} (h : I4 μ i np) (hp : p < 10) (hqn : q < np) (hn10 : np ≤ 10) : ∀ n, n ≤ np → I4 (mMov μ i p q td n) i np
  | 0, _ => h
  | n + 1, hn => by
    have ih := I4_mov (td := td) h hp hqn hn10 n (by omega)
    rw [mMov]
    split
    · rw [mMov1]
      split
      · exact I4_u4c ih (by omega) hp
      · exact I4_fol (I4_u4c ih (by omega) hp) (by omega) (by omega) (by omega) hqn
    · exact ih
theorem I4_do {μ : Nat → Nat → Int32} {i np k p q : Nat} {td : Int32} (h : I4 μ i np) (hpn : p < np) (hqn : q < np) (hn10 : np ≤ 10) (hnp : tn (μ 1 0) = np) : I4 (mDo1 μ i k p q td) i np := by
  have hp : p < 10 := by omega
  have hq : q < 10 := by omega
  rw [mDo1]
  split
  · refine I4_u3 h hp hq (fun z => ?_) (fun _ => ⟨hpn, hqn⟩)
    by_cases h3 : μ 3 (100 * i + 10 * p + q) = 0
    · by_cases h4 : μ 4 (100 * i + 10 * p + q) = 0
      · by_cases h5 : μ 5 (100 * i + 10 * p + q) = 0
        · by_cases h6 : μ 5 (100 * i + 10 * q + p) = 0
          · exact ⟨h4, h5, h6⟩
          · exact absurd (by simp [bI, h3, h4, mIsA, h5, h6]) z
        · exact absurd (by simp [bI, h3, h4, mIsA, h5]) z
      · exact absurd (by simp [bI, h3, h4]) z
    · exact (h p q hp hq).1 h3
  split
  · split
    · exact h
    · exact I4_fol h hq hp hqn hpn
  split
  · exact I4_u3 h hq hp (fun z => absurd rfl z) (fun z => absurd rfl z)
  split
  · exact I4_par h hp hq
  split
  · exact h
  split
  · rw [hnp]; exact I4_mov h hp hqn hn10 np (Nat.le_refl _)
  split
  · -- a block: asks both ways are gone
    intro a b ha hb
    show (¬ upd (upd (μ 3) (100 * i + 10 * p + q) 0) (100 * i + 10 * q + p) 0 (100 * i + 10 * a + b) = 0 → upd (upd (μ 4) (100 * i + 10 * p + q) 0) (100 * i + 10 * q + p) 0 (100 * i + 10 * a + b) = 0 ∧ upd (μ 5) (100 * i + 10 * p + q) 1 (100 * i + 10 * a + b) = 0 ∧ upd (μ 5) (100 * i + 10 * p + q) 1 (100 * i + 10 * b + a) = 0) ∧ (¬ upd (upd (μ 3) (100 * i + 10 * p + q) 0) (100 * i + 10 * q + p) 0 (100 * i + 10 * a + b) = 0 ∨ ¬ upd (upd (μ 4) (100 * i + 10 * p + q) 0) (100 * i + 10 * q + p) 0 (100 * i + 10 * a + b) = 0 → a < np ∧ b < np)
    rw [upd3 _ _ hq hp ha hb, upd3 _ _ hp hq ha hb, upd3 _ _ hq hp ha hb, upd3 _ _ hp hq ha hb, upd3 _ _ hp hq ha hb, upd3 _ _ hp hq hb ha]
    have h0 := h a b ha hb
    by_cases e1 : a = q ∧ b = p
    · rw [if_pos e1, if_pos e1]
      exact ⟨fun z => absurd rfl z, fun z => absurd rfl (z.elim id id)⟩
    · rw [if_neg e1, if_neg e1]
      by_cases e2 : a = p ∧ b = q
      · rw [if_pos e2, if_pos e2]
        exact ⟨fun z => absurd rfl z, fun z => absurd rfl (z.elim id id)⟩
      · rw [if_neg e2, if_neg e2, if_neg e2, if_neg (fun z => e1 ⟨z.2, z.1⟩)]
        exact h0
  · intro a b ha hb
    show (¬ μ 3 (100 * i + 10 * a + b) = 0 → μ 4 (100 * i + 10 * a + b) = 0 ∧ upd (μ 5) (100 * i + 10 * p + q) 0 (100 * i + 10 * a + b) = 0 ∧ upd (μ 5) (100 * i + 10 * p + q) 0 (100 * i + 10 * b + a) = 0) ∧ (¬ μ 3 (100 * i + 10 * a + b) = 0 ∨ ¬ μ 4 (100 * i + 10 * a + b) = 0 → a < np ∧ b < np)
    have h0 := h a b ha hb
    refine ⟨fun z => ?_, h0.2⟩
    obtain ⟨h4, h5, h6⟩ := h0.1 z
    refine ⟨h4, ?_, ?_⟩
    · rw [upd3 _ _ hp hq ha hb]; split
      · rfl
      · exact h5
    · rw [upd3 _ _ hp hq hb ha]; split
      · rfl
      · exact h6
