/-! posts: what came, what is marked, what is boosted -/
def r5 (ζ : Nat → Nat → Int64) (μ : Nat → Nat → Int32) (i : Nat) : Prop := (∀ n, n < 50 → kHsL (kLive ζ) n = !decide (μ 7 (50 * i + n) = 0)) ∧ (∀ n, n < 50 → kHsL (ζ 2 0) n = !decide (μ 8 (50 * i + n) = 0)) ∧ (∀ p n, p < 10 → n < 50 → kHsL (ζ 0 p) n = !decide (μ 10 (500 * i + 50 * p + n) = 0)) ∧ (∀ n, 50 ≤ n → n < 64 → kHsL (ζ 1 0) n = false ∧ kHsL (ζ 2 0) n = false)
theorem kLive_has (ζ : Nat → Nat → Int64) {n : Nat} (h : n < 64) : kHsL (kLive ζ) n = (kHsL (ζ 1 0) n && !kHsL (ζ 2 0) n) := by rw [kLive, kHsL_andn _ _ h]
theorem upd2 (m : Nat → Int32) {i n a : Nat} (v : Int32) (hn : n < 50) (ha : a < 50) : upd m (50 * i + n) v (50 * i + a) = if a = n then v else m (50 * i + a) := by
  by_cases h : a = n
  · rw [if_pos h, h, upd_same]
  · rw [if_neg h, upd_ne _ _ (by omega)]
theorem upd2o (m : Nat → Int32) {i j n a : Nat} (v : Int32) (hn : n < 50) (ha : a < 50) (hij : j ≠ i) : upd m (50 * i + n) v (50 * j + a) = m (50 * j + a) := upd_ne _ _ (by omega)
theorem r5_rows {ζ : Nat → Nat → Int64} {μ μ' : Nat → Nat → Int32} {i : Nat} (h : r5 ζ μ i) (h7 : μ' 7 = μ 7) (h8 : μ' 8 = μ 8) (h10 : μ' 10 = μ 10) : r5 ζ μ' i := by
  unfold r5
  rw [h7, h8, h10]
  exact h
theorem r5_8 {ζ : Nat → Nat → Int64} {μ : Nat → Nat → Int32} {i p n : Nat} (h : r5 ζ μ i) (hn : n < 50) : r5 (zLearn ζ 8 p n) (va_up μ 7 (upd (μ 7) (50 * i + n) (bI (decide (μ 8 (50 * i + n) = 0))))) i := by
  obtain ⟨h1, h2, h3, h4⟩ := h
  refine ⟨fun a ha => ?_, h2, h3, fun a ha hb => ⟨?_, (h4 a ha hb).2⟩⟩
  · show kHsL (kLive (va_up ζ 1 (fun _ => ζ 1 0 ||| kBL n))) a = !decide (upd (μ 7) (50 * i + n) (bI (decide (μ 8 (50 * i + n) = 0))) (50 * i + a) = 0)
    rw [kLive_has _ (by omega), upd2 _ _ hn ha]
    show (kHsL (ζ 1 0 ||| kBL n) a && !kHsL (ζ 2 0) a) = _
    rw [kHsL_or _ _ (by omega), kHsL_bit (by omega) (by omega)]
    by_cases e : a = n
    · subst e
      rw [h2 a ha]
      cases decide (μ 8 (50 * i + a) = 0) <;> simp [bI]
    · have h5 := h1 a ha
      rw [kLive_has _ (by omega)] at h5
      simp only [e, if_false, decide_false, Bool.or_false]
      exact h5
  · show kHsL (ζ 1 0 ||| kBL n) a = false
    rw [kHsL_or _ _ hb, kHsL_bit (by omega) hb, (h4 a ha hb).1]
    simp
    omega
theorem r5_9 {ζ : Nat → Nat → Int64} {μ : Nat → Nat → Int32} {i p n : Nat} (h : r5 ζ μ i) (hn : n < 50) : r5 (zLearn ζ 9 p n) (va_up (va_up μ 7 (upd (μ 7) (50 * i + n) 0)) 8 (upd (μ 8) (50 * i + n) 1)) i := by
  obtain ⟨h1, h2, h3, h4⟩ := h
  refine ⟨fun a ha => ?_, fun a ha => ?_, h3, fun a ha hb => ⟨(h4 a ha hb).1, ?_⟩⟩
  · show kHsL (kLive (va_up ζ 2 (fun _ => ζ 2 0 ||| kBL n))) a = !decide (upd (μ 7) (50 * i + n) 0 (50 * i + a) = 0)
    rw [kLive_has _ (by omega), upd2 _ _ hn ha]
    show (kHsL (ζ 1 0) a && !kHsL (ζ 2 0 ||| kBL n) a) = _
    rw [kHsL_or _ _ (by omega), kHsL_bit (by omega) (by omega)]
    by_cases e : a = n
    · subst e; simp
    · have h5 := h1 a ha
      rw [kLive_has _ (by omega)] at h5
      simp only [e, if_false, decide_false, Bool.or_false]
      exact h5
  · show kHsL (ζ 2 0 ||| kBL n) a = !decide (upd (μ 8) (50 * i + n) 1 (50 * i + a) = 0)
    rw [kHsL_or _ _ (by omega), kHsL_bit (by omega) (by omega), upd2 _ _ hn ha, h2 a ha]
    by_cases e : a = n
    · subst e; simp
    · simp [e]
  · show kHsL (ζ 2 0 ||| kBL n) a = false
    rw [kHsL_or _ _ hb, kHsL_bit (by omega) hb, (h4 a ha hb).2]
    simp
    omega
theorem r5_10 {ζ : Nat → Nat → Int64} {μ : Nat → Nat → Int32} {i p n : Nat} (h : r5 ζ μ i) (hp : p < 10) (hn : n < 50) : r5 (zLearn ζ 10 p n) (va_up (va_up μ 10 (upd (μ 10) (500 * i + 50 * p + n) 1)) 7 (upd (μ 7) (50 * i + n) (bI (decide (μ 8 (50 * i + n) = 0))))) i := by
  have h8 := r5_8 (p := p) h hn
  obtain ⟨h1, h2, h3, h4⟩ := h
  refine ⟨h8.1, h2, fun a b ha hb => ?_, h8.2.2.2⟩
  show kHsL (vp_updL (ζ 0) p (ζ 0 p ||| kBL n) a) b = !decide (upd (μ 10) (500 * i + 50 * p + n) 1 (500 * i + 50 * a + b) = 0)
  by_cases e : a = p
  · subst e
    have : vp_updL (ζ 0) a (ζ 0 a ||| kBL n) a = ζ 0 a ||| kBL n := if_pos rfl
    rw [this, kHsL_or _ _ (by omega), kHsL_bit (by omega) (by omega), h3 a b ha hb]
    by_cases e2 : b = n
    · subst e2; rw [upd_same]; simp
    · rw [upd_ne _ _ (by omega)]; simp [e2]
  · have : vp_updL (ζ 0) p (ζ 0 p ||| kBL n) a = ζ 0 a := if_neg e
    rw [this, upd_ne _ _ (by omega)]
    exact h3 a b ha hb
/-- a server's rows of posts are as before -/
def s5 (μ μ' : Nat → Nat → Int32) (j : Nat) : Prop := (∀ n, n < 50 → μ' 7 (50 * j + n) = μ 7 (50 * j + n) ∧ μ' 8 (50 * j + n) = μ 8 (50 * j + n)) ∧ ∀ p n, p < 10 → n < 50 → μ' 10 (500 * j + 50 * p + n) = μ 10 (500 * j + 50 * p + n)
theorem r5_s5 {ζ : Nat → Nat → Int64} {μ μ' : Nat → Nat → Int32} {j : Nat} (h : r5 ζ μ j) (hs : s5 μ μ' j) : r5 ζ μ' j := ⟨fun n hn => by rw [(hs.1 n hn).1]; exact h.1 n hn, fun n hn => by rw [(hs.1 n hn).2]; exact h.2.1 n hn, fun p n hp hn => by rw [hs.2 p n hp hn]; exact h.2.2.1 p n hp hn, h.2.2.2⟩
theorem s5_rows {μ μ' : Nat → Nat → Int32} {j : Nat} (h7 : μ' 7 = μ 7) (h8 : μ' 8 = μ 8) (h10 : μ' 10 = μ 10) : s5 μ μ' j := ⟨fun n _ => by rw [h7, h8]; exact ⟨rfl, rfl⟩, fun p n _ _ => by rw [h10]⟩
theorem s5_tr {μ μ1 μ2 : Nat → Nat → Int32} {j : Nat} (h : s5 μ μ1 j) (h2 : s5 μ1 μ2 j) : s5 μ μ2 j := ⟨fun n hn => ⟨((h2.1 n hn).1).trans (h.1 n hn).1, ((h2.1 n hn).2).trans (h.1 n hn).2⟩, fun p n hp hn => (h2.2 p n hp hn).trans (h.2 p n hp hn)⟩
theorem s5_7 {μ : Nat → Nat → Int32} {i j n : Nat} (v : Int32) (hij : j ≠ i) (hn : n < 50) : s5 μ (va_up μ 7 (upd (μ 7) (50 * i + n) v)) j := ⟨fun a ha => ⟨upd2o (μ 7) v hn ha hij, rfl⟩, fun _ _ _ _ => rfl⟩
theorem s5_8 {μ : Nat → Nat → Int32} {i j n : Nat} (v : Int32) (hij : j ≠ i) (hn : n < 50) : s5 μ (va_up μ 8 (upd (μ 8) (50 * i + n) v)) j := ⟨fun a ha => ⟨rfl, upd2o (μ 8) v hn ha hij⟩, fun _ _ _ _ => rfl⟩
theorem s5_10 {μ : Nat → Nat → Int32} {i j p n : Nat} (v : Int32) (hij : j ≠ i) (hp : p < 10) (hn : n < 50) : s5 μ (va_up μ 10 (upd (μ 10) (500 * i + 50 * p + n) v)) j := ⟨fun _ _ => ⟨rfl, rfl⟩, fun a b ha hb => by
  show upd (μ 10) (500 * i + 50 * p + n) v (500 * j + 50 * a + b) = _
  exact upd_ne _ _ (by omega)⟩
/-! whom a server knows as followers; their servers -/
theorem kFo_has (κ : Nat → Nat → Int32) (p : Nat) {o : Nat} : ∀ n, n ≤ 10 → o < 32 → kHas (kFo κ p n) o = (decide (o < n) && kHas (κ 1 o) p)
  | 0, _, ho => by rw [kFo, kHas_0 ho]; simp
  | n + 1, hn, ho => by
    have ih := kFo_has κ p (o := o) n (by omega) ho
    rw [kFo]
    by_cases hc : kHas (κ 1 n) p = true
    · rw [if_pos hc, kHas_or _ _ ho, kHas_bit (by omega) ho, ih]
      by_cases e : o = n
      · subst e; rw [hc]; simp
      · have : decide (o < n + 1) = decide (o < n) := by
          by_cases h : o < n
          · simp [h, show o < n + 1 by omega]
          · simp [h, show ¬ o < n + 1 by omega]
        simp [e, this]
    · rw [if_neg hc, ih]
      by_cases e : o = n
      · subst e
        rw [Bool.eq_false_iff.mpr hc]; simp
      · have : decide (o < n + 1) = decide (o < n) := by
          by_cases h : o < n
          · simp [h, show o < n + 1 by omega]
          · simp [h, show ¬ o < n + 1 by omega]
        rw [this]
theorem int_or0 (x : Int32) : x ||| 0 = x := kHas_ext (fun q hq => by rw [kHas_or _ _ hq, kHas_0 hq, Bool.or_false])
theorem mSvr_ho {κ μ : Nat → Nat → Int32} {χ : Nat → Nat} {i p : Nat} (h : r4 κ μ i) (hp : p < 10) (hχ : ∀ j, j < 10 → μ 2 j = nI (χ j)) : ∀ n, n ≤ 10 → mSvr μ i p n = kHo χ (kFo κ p 10) n
  | 0, _ => rfl
  | n + 1, hn => by
    have ih := mSvr_ho h hp hχ n (by omega)
    rw [mSvr, kHo, ih, kFo_has κ p 10 (Nat.le_refl _) (by omega), h.2.1.1 n p (by omega) hp, hχ n (by omega)]
    by_cases hc : μ 4 (100 * i + 10 * n + p) = 0
    · rw [if_pos hc, if_neg (by simp [hc]), int_or0]
    · rw [if_neg hc, if_pos (by simp [hc]; omega)]
      rfl
theorem mSrv_ho {κ μ : Nat → Nat → Int32} {χ : Nat → Nat} {i p np : Nat} (h : r4 κ μ i) (hp : p < 10) (hχ : ∀ j, j < 10 → μ 2 j = nI (χ j)) (hn : tn (μ 1 0) = np) (hn10 : np ≤ 10) : mSrv μ i p = kHo χ (kFo κ p 10) np &&& (kBit i ^^^ (-1)) := by
  rw [mSrv, hn, mSvr_ho h hp hχ np hn10]
  rfl
