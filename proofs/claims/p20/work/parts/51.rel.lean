/-! rows of bits against rows of truth values -/
theorem ix3 {i j p q a b : Nat} (hp : p < 10) (hq : q < 10) (ha : a < 10) (hb : b < 10) : 100 * j + 10 * a + b = 100 * i + 10 * p + q ↔ j = i ∧ a = p ∧ b = q := by omega
theorem upd_same (m : Nat → Int32) (k : Nat) (v : Int32) : upd m k v k = v := if_pos rfl
theorem upd_ne (m : Nat → Int32) {k j : Nat} (v : Int32) (h : j ≠ k) : upd m k v j = m j := if_neg h
theorem upd3 (m : Nat → Int32) {i p q a b : Nat} (v : Int32) (hp : p < 10) (hq : q < 10) (ha : a < 10) (hb : b < 10) : upd m (100 * i + 10 * p + q) v (100 * i + 10 * a + b) = if a = p ∧ b = q then v else m (100 * i + 10 * a + b) := by
  by_cases h : a = p ∧ b = q
  · rw [if_pos h, h.1, h.2, upd_same]
  · rw [if_neg h, upd_ne]
    intro e
    exact h ((ix3 hp hq ha hb).mp e).2
theorem upd3o (m : Nat → Int32) {i j p q a b : Nat} (v : Int32) (hp : p < 10) (hq : q < 10) (ha : a < 10) (hb : b < 10) (hij : j ≠ i) : upd m (100 * i + 10 * p + q) v (100 * j + 10 * a + b) = m (100 * j + 10 * a + b) := upd_ne _ _ (fun e => hij ((ix3 hp hq ha hb).mp e).1)
def rB (f m : Nat → Int32) (i : Nat) : Prop := (∀ p q, p < 10 → q < 10 → kHas (f p) q = !decide (m (100 * i + 10 * p + q) = 0)) ∧ (∀ p q, p < 10 → 10 ≤ q → q < 32 → kHas (f p) q = false)
def rA (f m : Nat → Int32) (i : Nat) : Prop := ∀ p q, p < 10 → q < 10 → kHas (f p) q = decide (m (10 * i + p) = nI (q + 1))
theorem rB_set {f m : Nat → Int32} {i p q : Nat} {v : Int32} (h : rB f m i) (hp : p < 10) (hq : q < 10) (hv : ¬ v = 0) : rB (upd f p (f p ||| kBit q)) (upd m (100 * i + 10 * p + q) v) i := by
  refine ⟨fun a b ha hb => ?_, fun a b ha hb hb2 => ?_⟩
  · rw [upd3 m v hp hq ha hb]
    by_cases h1 : a = p
    · subst h1
      rw [upd_same, kHas_or _ _ (by omega), kHas_bit (by omega) (by omega), h.1 a b ha hb]
      by_cases h2 : b = q
      · simp [h2, hv]
      · simp [h2]
    · rw [upd_ne _ _ h1, h.1 a b ha hb]
      simp [h1]
  · by_cases h1 : a = p
    · subst h1
      rw [upd_same, kHas_or _ _ hb2, kHas_bit (by omega) hb2, h.2 a b ha hb hb2]
      simp
      omega
    · rw [upd_ne _ _ h1]; exact h.2 a b ha hb hb2
theorem rB_clr {f m : Nat → Int32} {i p q : Nat} (h : rB f m i) (hp : p < 10) (hq : q < 10) : rB (upd f p (f p &&& (kBit q ^^^ (-1)))) (upd m (100 * i + 10 * p + q) 0) i := by
  refine ⟨fun a b ha hb => ?_, fun a b ha hb hb2 => ?_⟩
  · rw [upd3 m 0 hp hq ha hb]
    by_cases h1 : a = p
    · subst h1
      rw [upd_same, kHas_andn _ _ (by omega), kHas_bit (by omega) (by omega), h.1 a b ha hb]
      by_cases h2 : b = q
      · simp [h2]
      · simp [h2]
    · rw [upd_ne _ _ h1, h.1 a b ha hb]
      simp [h1]
  · by_cases h1 : a = p
    · subst h1
      rw [upd_same, kHas_andn _ _ hb2, h.2 a b ha hb hb2]
      simp
    · rw [upd_ne _ _ h1]; exact h.2 a b ha hb hb2
theorem rB_oth {f m : Nat → Int32} {i j p q : Nat} (v : Int32) (h : rB f m j) (hij : j ≠ i) (hp : p < 10) (hq : q < 10) : rB f (upd m (100 * i + 10 * p + q) v) j := ⟨fun a b ha hb => by rw [upd3o m v hp hq ha hb hij]; exact h.1 a b ha hb, h.2⟩
theorem rB_bool {f m : Nat → Int32} {i p q : Nat} {b : Bool} (h : rB f m i) (hp : p < 10) (hq : q < 10) (hb : b = !decide (m (100 * i + 10 * p + q) = 0)) : rB f (upd m (100 * i + 10 * p + q) (bI b)) i := by
  refine ⟨fun a c ha hc => ?_, h.2⟩
  rw [upd3 m _ hp hq ha hc, h.1 a c ha hc]
  by_cases h1 : a = p ∧ c = q
  · rw [if_pos h1, h1.1, h1.2, ← hb]
    cases b <;> simp [bI]
  · rw [if_neg h1]
def r4 (κ μ : Nat → Nat → Int32) (i : Nat) : Prop := rB (κ 0) (μ 3) i ∧ rB (κ 1) (μ 4) i ∧ rB (κ 2) (μ 5) i ∧ rA (κ 3) (μ 6) i
theorem r4_fol {κ μ : Nat → Nat → Int32} {i p q : Nat} (h : r4 κ μ i) (hp : p < 10) (hq : q < 10) : r4 (kSt κ p q) (mFol μ i p q) i := ⟨rB_clr h.1 hp hq, rB_set h.2.1 hp hq (by decide), h.2.2.1, h.2.2.2⟩
theorem r4_par {κ μ : Nat → Nat → Int32} {i p q : Nat} (h : r4 κ μ i) (hp : p < 10) (hq : q < 10) : r4 (kPart κ p q) (mPar μ i p q) i := ⟨rB_clr h.1 hp hq, rB_clr h.2.1 hp hq, h.2.2.1, h.2.2.2⟩
theorem r4_bet {κ μ : Nat → Nat → Int32} {i p q : Nat} (h : r4 κ μ i) (hp : p < 10) (hq : q < 10) : kBet κ p q = mIsA μ i p q := by rw [kBet, mIsA, h.2.2.1.1 p q hp hq, h.2.2.1.1 q p hq hp]
theorem mIsA_sym (μ : Nat → Nat → Int32) (i p q : Nat) : mIsA μ i p q = mIsA μ i q p := by rw [mIsA, mIsA, Bool.or_comm]
theorem r4_mov1 {κ μ : Nat → Nat → Int32} {i p q f : Nat} (h : r4 κ μ i) (hp : p < 10) (hq : q < 10) (hf : f < 10) : r4 (kLM1 κ p q f) (mMov1 μ i p q f) i := by
  have h1 : r4 (va_up κ 1 (upd (κ 1) f (κ 1 f &&& (kBit p ^^^ (-1))))) (va_up μ 4 (upd (μ 4) (100 * i + 10 * f + p) 0)) i := ⟨h.1, rB_clr h.2.1 hf hp, h.2.2.1, h.2.2.2⟩
  rw [kLM1, mMov1, r4_bet h hf hq]
  by_cases hc : f = q ∨ mIsA μ i f q = true
  · rw [if_pos hc, if_pos hc]; exact h1
  · rw [if_neg hc, if_neg hc]; exact r4_fol h1 hf hq
theorem r4_mov {κ μ : Nat → Nat → Int32} {i p q : Nat} {td : Int32} (h : r4 κ μ i) (hp : p < 10) (hq : q < 10) : ∀ n, n ≤ 10 → r4 (kLM κ p q td n) (mMov μ i p q td n) i
  | 0, _ => h
  | n + 1, hn => by
    have ih := r4_mov (td := td) h hp hq n (by omega)
    rw [kLM, mMov]
    by_cases hc : kHas td n = true
    · have h1 : (td >>> (nI n &&& 31)) &&& 1 = 1 := by
        have h0 : ¬ (td >>> (nI n &&& 31)) &&& 1 = 0 := by
          intro e
          rw [kHas] at hc
          simp [e] at hc
        exact jb_one h0
      rw [if_pos hc, if_pos h1]
      exact r4_mov1 ih hp hq (by omega)
    · have h1 : ¬ (td >>> (nI n &&& 31)) &&& 1 = 1 := by
        intro e
        apply hc
        rw [kHas, e]
        rfl
      rw [if_neg hc, if_neg h1]
      exact ih
theorem kLM_end {κ : Nat → Nat → Int32} {p q np : Nat} {td : Int32} (htd : ∀ f, f < 10 → kHas td f = true → f < np) : ∀ n, np ≤ n → n ≤ 10 → kLM κ p q td n = kLM κ p q td np
  | 0, h, _ => by rw [Nat.le_zero.mp h]
  | n + 1, h, h2 => by
    by_cases e : np = n + 1
    · rw [e]
    · rw [kLM, if_neg (fun hc => absurd (htd n (by omega) hc) (by omega))]
      exact kLM_end htd n (by omega) (by omega)
/-- an act about two people is learned as it is done -/
theorem r4_do {κ μ : Nat → Nat → Int32} {i k p q np : Nat} {td : Int32} (h : r4 κ μ i) (hk : k < 8) (hp : p < 10) (hq : q < 10) (hI : ∀ a b, a < 10 → b < 10 → ¬ μ 3 (100 * i + 10 * a + b) = 0 → mIsA μ i a b = false) (hnp : tn (μ 1 0) = np) (hn10 : np ≤ 10) (htd : ∀ f, f < 10 → kHas td f = true → f < np) : r4 (kLearn κ k p q td) (mDo1 μ i k p q td) i := by
  have hc : k = 0 ∨ k = 1 ∨ k = 2 ∨ k = 3 ∨ k = 4 ∨ k = 5 ∨ k = 6 ∨ k = 7 := by omega
  rcases hc with rfl | rfl | rfl | rfl | rfl | rfl | rfl | rfl
  · show r4 (kLF κ p q) (va_up μ 3 (upd (μ 3) (100 * i + 10 * p + q) (bI (!decide (μ 3 (100 * i + 10 * p + q) = 0) || (decide (μ 4 (100 * i + 10 * p + q) = 0) && !mIsA μ i p q))))) i
    rw [kLF, r4_bet h hp hq, h.2.1.1 p q hp hq]
    by_cases hc : (!decide (μ 4 (100 * i + 10 * p + q) = 0)) = true ∨ mIsA μ i p q = true
    · rw [if_pos hc]
      refine ⟨rB_bool h.1 hp hq ?_, h.2.1, h.2.2.1, h.2.2.2⟩
      rcases hc with hc | hc
      · have : decide (μ 4 (100 * i + 10 * p + q) = 0) = false := by simpa using hc
        rw [this]; simp
      · rw [hc]; simp
    · rw [if_neg hc]
      have h1 : decide (μ 4 (100 * i + 10 * p + q) = 0) = true := by
        cases hd : decide (μ 4 (100 * i + 10 * p + q) = 0) with
        | true => rfl
        | false => exact absurd (Or.inl (by rw [hd]; rfl)) hc
      have h2 : mIsA μ i p q = false := by
        cases hd : mIsA μ i p q with
        | false => rfl
        | true => exact absurd (Or.inr hd) hc
      rw [h1, h2]
      refine ⟨rB_set h.1 hp hq ?_, h.2.1, h.2.2.1, h.2.2.2⟩
      simp [bI]
  · show r4 (kLA κ p q) (if μ 3 (100 * i + 10 * q + p) = 0 ∨ mIsA μ i p q = true then μ else mFol μ i q p) i
    by_cases hc : μ 3 (100 * i + 10 * q + p) = 0
    · have e1 : kLA κ p q = κ := by rw [kLA, h.1.1 q p hq hp, if_neg (by simp [hc])]
      have e2 : (if μ 3 (100 * i + 10 * q + p) = 0 ∨ mIsA μ i p q = true then μ else mFol μ i q p) = μ := if_pos (Or.inl hc)
      rw [e1, e2]; exact h
    · have h2 := hI q p hq hp hc
      rw [mIsA_sym] at h2
      have e1 : kLA κ p q = kSt κ q p := by rw [kLA, h.1.1 q p hq hp, if_pos (by simp [hc])]
      have e2 : (if μ 3 (100 * i + 10 * q + p) = 0 ∨ mIsA μ i p q = true then μ else mFol μ i q p) = mFol μ i q p := if_neg (by rw [h2]; simp [hc])
      rw [e1, e2]; exact r4_fol h hq hp
  · exact ⟨rB_clr h.1 hq hp, h.2.1, h.2.2.1, h.2.2.2⟩
  · exact r4_par h hp hq
  · have h1 : r4 (kPart (kPart κ p q) q p) (mPar (mPar μ i p q) i q p) i := r4_par (r4_par h hp hq) hq hp
    exact ⟨h1.1, h1.2.1, rB_set h.2.2.1 hp hq (by decide), h.2.2.2⟩
  · exact ⟨h.1, h.2.1, rB_clr h.2.2.1 hp hq, h.2.2.2⟩
  · refine ⟨h.1, h.2.1, h.2.2.1, fun a b ha hb => ?_⟩
    show kHas (upd (κ 3) p (kBit q) a) b = decide (upd (μ 6) (10 * i + p) (nI (q + 1)) (10 * i + a) = nI (b + 1))
    by_cases e : a = p
    · subst e
      rw [upd_same, upd_same, kHas_bit (by omega) (by omega)]
      by_cases e2 : b = q
      · simp [e2]
      · have : ¬ nI (q + 1) = nI (b + 1) := fun z => by
          have := (nI_eq (by omega) (by omega)).mp z
          omega
        simp [e2, this]
    · rw [upd_ne _ _ e, upd_ne _ _ (by omega)]
      exact h.2.2.2 a b ha hb
  · show r4 (kLM κ p q td 10) (mMov μ i p q td (tn (μ 1 0))) i
    rw [kLM_end htd 10 hn10 (Nat.le_refl _), hnp]
    exact r4_mov h hp hq np hn10
