/-! who sees a post; home -/
theorem mSeen_RR {np nc nn : Nat} {χ nau : Nat → Nat} {nkd nna nth nwe nso : Nat → Int32} {fk fp fa : Nat → Nat} {ft : Nat → Int32} {κ : Nat → Nat → Nat → Int32} {ζ : Nat → Nat → Nat → Int64} {lI pI : Nat → List Nat} {dl : Nat → Nat} {δ : Nat → Nat → Int32} {μ : Nat → Nat → Int32} {N : Nat} (h : RR np nc nn χ nau nkd nna nth nwe nso fk fp fa ft κ ζ lI pI dl δ μ N) {p n : Nat} (hp : p < np) (hn : n < nn) : mSeen μ p n = kSee (κ (χ p)) (ζ (χ p)) p n (nau n) (nkd n) (nna n) := by
  obtain ⟨h0, hW, hA, h2, h3, h4, hS, h6⟩ := h
  have hp10 : p < 10 := by have := h0.1.2; omega
  obtain ⟨p1, p2, p3, p4, p5⟩ := h2 n hn
  have hau : nau n < 10 := by have := h0.1.2; omega
  have hn50 : n < 50 := by have := h0.2.2.2.2; omega
  obtain ⟨s4, s5, -⟩ := hS _ (hom_q0 h0 hp10).2
  have e1 : tn (μ 12 n) = nau n := by rw [p1, tn_nI (by omega)]
  have e2 : mNam μ n p = kHas (nna n) p := by
    rw [mNam, p4]
    by_cases c : kHas (nna n) p = true
    · rw [c, decide_eq_true ((kHas_1 _ _).mp c)]
    · rw [Bool.eq_false_iff.mpr c, decide_eq_false (fun z => c ((kHas_1 _ _).mpr z))]
  rw [mSeen, kSee, (hom_q0 h0 hp10).1, e1, e2, p3, ← r4_bet s4 hp10 hau, s5.1 n hn50, s4.2.1.1 p (nau n) hp10 hau]
theorem mAtHR_RR {np nc nn : Nat} {χ nau : Nat → Nat} {nkd nna nth nwe nso : Nat → Int32} {fk fp fa : Nat → Nat} {ft : Nat → Int32} {κ : Nat → Nat → Nat → Int32} {ζ : Nat → Nat → Nat → Int64} {lI pI : Nat → List Nat} {dl : Nat → Nat} {δ : Nat → Nat → Int32} {μ : Nat → Nat → Int32} {N : Nat} (h : RR np nc nn χ nau nkd nna nth nwe nso fk fp fa ft κ ζ lI pI dl δ μ N) {p n : Nat} (hp : p < np) (hn : n < nn) : ∀ q, q ≤ 10 → mAtHR μ p n q = (decide (nau n = p) || kHas (nna n) p || kHas (κ (χ p) 1 p) (nau n) || kBf (κ (χ p)) (ζ (χ p)) p n q) := by
  obtain ⟨h0, hW, hA, h2, h3, h4, hS, h6⟩ := h
  have hp10 : p < 10 := by have := h0.1.2; omega
  obtain ⟨p1, p2, p3, p4, p5⟩ := h2 n hn
  have hau : nau n < 10 := by have := h0.1.2; omega
  have hn50 : n < 50 := by have := h0.2.2.2.2; omega
  obtain ⟨s4, s5, -⟩ := hS _ (hom_q0 h0 hp10).2
  have e1 : tn (μ 12 n) = nau n := by rw [p1, tn_nI (by omega)]
  have e2 : mNam μ n p = kHas (nna n) p := by
    rw [mNam, p4]
    by_cases c : kHas (nna n) p = true
    · rw [c, decide_eq_true ((kHas_1 _ _).mp c)]
    · rw [Bool.eq_false_iff.mpr c, decide_eq_false (fun z => c ((kHas_1 _ _).mpr z))]
  intro q
  induction q with
  | zero =>
    intro _
    rw [mAtHR, (hom_q0 h0 hp10).1, e1, e2, s4.2.1.1 p (nau n) hp10 hau, kBf, Bool.or_false]
  | succ q ih =>
    intro hq
    rw [mAtHR, ih (by omega), kBf, (hom_q0 h0 hp10).1, s4.2.1.1 p q hp10 (by omega), s5.2.2.1 q n (by omega) hn50]
    simp only [Bool.or_assoc]
theorem kBf_np {np nc nn : Nat} {χ nau : Nat → Nat} {nkd nna nth nwe nso : Nat → Int32} {fk fp fa : Nat → Nat} {ft : Nat → Int32} {κ : Nat → Nat → Nat → Int32} {ζ : Nat → Nat → Nat → Int64} {lI pI : Nat → List Nat} {dl : Nat → Nat} {δ : Nat → Nat → Int32} {μ : Nat → Nat → Int32} {N : Nat} (h : RR np nc nn χ nau nkd nna nth nwe nso fk fp fa ft κ ζ lI pI dl δ μ N) {p n : Nat} (hp : p < np) : ∀ q, np ≤ q → q ≤ 10 → kBf (κ (χ p)) (ζ (χ p)) p n q = kBf (κ (χ p)) (ζ (χ p)) p n np := by
  obtain ⟨h0, hW, hA, h2, h3, h4, hS, h6⟩ := h
  have hp10 : p < 10 := by have := h0.1.2; omega
  obtain ⟨s4, s5, sI, -⟩ := hS _ (hom_q0 h0 hp10).2
  intro q
  induction q with
  | zero => intro h1 _; rw [Nat.le_zero.mp h1]
  | succ q ih =>
    intro h1 hq
    by_cases c : np = q + 1
    · rw [c]
    · have z : kHas (κ (χ p) 1 p) q = false := by
        rw [s4.2.1.1 p q hp10 (by omega)]
        have : μ 4 (100 * χ p + 10 * p + q) = 0 := Classical.byContradiction (fun z => by have := ((sI p q hp10 (by omega)).2 (Or.inr z)).2; omega)
        simp [this]
      rw [kBf, z, ih (by omega) (by omega), Bool.false_and, Bool.or_false]
theorem mAtH_RR {np nc nn : Nat} {χ nau : Nat → Nat} {nkd nna nth nwe nso : Nat → Int32} {fk fp fa : Nat → Nat} {ft : Nat → Int32} {κ : Nat → Nat → Nat → Int32} {ζ : Nat → Nat → Nat → Int64} {lI pI : Nat → List Nat} {dl : Nat → Nat} {δ : Nat → Nat → Int32} {μ : Nat → Nat → Int32} {N : Nat} (h : RR np nc nn χ nau nkd nna nth nwe nso fk fp fa ft κ ζ lI pI dl δ μ N) {p n : Nat} (hp : p < np) (hn : n < nn) : mAtH μ p n = kAth (κ (χ p)) (ζ (χ p)) p n (nau n) (nkd n) (nna n) := by
  have hn2 := h.1.1.2
  have ht : tn (μ 1 0) = np := by rw [h.1.1.1, tn_nI (by omega)]
  rw [mAtH, kAth, ht, mAtHR_RR h hp hn np hn2, mSeen_RR h hp hn, kBf_np h hp 10 hn2 (Nat.le_refl _), Bool.and_comm]
theorem mBet_RR {np nc nn : Nat} {χ nau : Nat → Nat} {nkd nna nth nwe nso : Nat → Int32} {fk fp fa : Nat → Nat} {ft : Nat → Int32} {κ : Nat → Nat → Nat → Int32} {ζ : Nat → Nat → Nat → Int64} {lI pI : Nat → List Nat} {dl : Nat → Nat} {δ : Nat → Nat → Int32} {μ : Nat → Nat → Int32} {N : Nat} (h : RR np nc nn χ nau nkd nna nth nwe nso fk fp fa ft κ ζ lI pI dl δ μ N) {s p q : Nat} (hs : s < 4) (hp : p < np) (hq : q < np) : mBetR μ (nI s) (nI p) (nI q) = cBet (κ s) p q := by
  obtain ⟨h0, hW, hA, h2, h3, h4, hS, h6⟩ := h
  have hp10 : p < 10 := by have := h0.1.2; omega
  have hq10 : q < 10 := by have := h0.1.2; omega
  obtain ⟨s4, -, sI, -⟩ := hS s hs
  have e0 : mBetT μ (nI s) (nI p) (nI q) = 0 := by
    rw [mBetT, if_pos]
    exact ⟨mIn_nI (n := 4) (by omega) hs, mTwo_nI h0 hp hq⟩
  rw [mBetR, e0, if_pos rfl, tn_nI (by omega), tn_nI (by omega), tn_nI (by omega), cBet, s4.1.1 p q hp10 hq10, s4.2.1.1 p q hp10 hq10, s4.2.2.1.1 p q hp10 hq10]
  have k := (sI p q hp10 hq10).1
  by_cases c3 : μ 3 (100 * s + 10 * p + q) = 0
  · by_cases c4 : μ 4 (100 * s + 10 * p + q) = 0 <;> by_cases c5 : μ 5 (100 * s + 10 * p + q) = 0 <;> simp [c3, c4, c5]
  · obtain ⟨c4, c5, -⟩ := k c3
    simp [c3, c4, c5]
theorem mOfs_RR {np nc nn : Nat} {χ nau : Nat → Nat} {nkd nna nth nwe nso : Nat → Int32} {fk fp fa : Nat → Nat} {ft : Nat → Int32} {κ : Nat → Nat → Nat → Int32} {ζ : Nat → Nat → Nat → Int64} {lI pI : Nat → List Nat} {dl : Nat → Nat} {δ : Nat → Nat → Int32} {μ : Nat → Nat → Int32} {N : Nat} (h : RR np nc nn χ nau nkd nna nth nwe nso fk fp fa ft κ ζ lI pI dl δ μ N) {s w : Nat} (hs : s < 4) (hw : w < 6) (hN : N < 1200) : mOfsR μ (nI s) (nI w) = cOfs (κ s) (ζ s) (lI s).length (pI s).length (dl s) w := by
  obtain ⟨h0, hW, hA, h2, h3, h4, hS, h6⟩ := h
  obtain ⟨s4, s5, sI, sD, -⟩ := hS s hs
  obtain ⟨g1, g2, g3⟩ := h6.2.1 s hs
  have g0 := (h6.1 s hs).1
  have e0 : mOfsT μ (nI s) (nI w) = 0 := by
    have i3 : mIn (nI s) 0 3 = true := mIn_nI (n := 4) (by omega) hs
    have i5 : mIn (nI w) 0 5 = true := mIn_nI (n := 6) (by omega) hw
    rw [mOfsT, i3, i5]
    rfl
  have en : tn (μ 17 0) = nc := by rw [h0.2.2.1.1, tn_nI (by have := h0.2.2.1.2; omega)]
  rw [mOfsR, e0, if_pos rfl, tn_nI (by omega), tn_nI (by omega), g0, g1, tn_nI (by omega), tn_nI (by omega), en, cOfs]
  by_cases w0 : w = 0
  · rw [if_pos w0, if_pos w0]; exact pk_sub g2
  · rw [if_neg w0, if_neg w0]
    by_cases w1 : w = 1
    · rw [if_pos w1, if_pos w1]; exact rD_len sD
    · rw [if_neg w1, if_neg w1, mKn]
      by_cases w2 : w = 2
      · rw [if_pos (by omega), if_pos w2, if_pos w2]
        exact (jLbc_cnt s5.1 (fun n a b => by rw [kLive_has _ b, (s5.2.2.2 n a b).1]; rfl)).symm
      · rw [if_neg w2, if_neg w2]
        by_cases w3 : w = 3
        · rw [if_pos (by omega), if_pos w3]
          exact (jLbc_cnt s5.2.1 (fun n a b => (s5.2.2.2 n a b).2)).symm
        · rw [if_neg (by omega), if_neg w3]
          by_cases w4 : w = 4
          · rw [if_pos w4, if_pos w4]; exact (kSz_rB s4.2.1 rfl).symm
          · rw [if_neg w4, if_neg w4]; exact (kSz_rB s4.1 rfl).symm
