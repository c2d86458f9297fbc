/-! what the calls' arguments say, and the checks -/
theorem mIn_np (v : Int32) {n : Nat} (hn : n ≤ 1000) : (mIn v 0 (nI n - 1) = true ∧ ∃ i, i < n ∧ v = nI i) ∨ (mIn v 0 (nI n - 1) = false ∧ (v < 0 ∨ ¬ v < nI n)) := by
  have e1 : (nI n - 1).toInt = (n : Int) - 1 := by
    rcases Nat.eq_zero_or_pos n with z | z
    · subst z; decide
    · rw [show (1 : Int32) = nI 1 from rfl, pk_sub z, nI_toInt (by omega)]; omega
  have e0 : (0 : Int32).toInt = 0 := rfl
  by_cases c : 0 ≤ v.toInt ∧ v.toInt ≤ (n : Int) - 1
  · left
    refine ⟨?_, v.toInt.toNat, by omega, ?_⟩
    · simp only [mIn, Bool.and_eq_true, decide_eq_true_eq, Int32.le_iff_toInt_le, e0, e1]
      exact c
    · apply Int32.toInt_inj.mp
      rw [nI_toInt (by omega)]
      omega
  · right
    refine ⟨?_, ?_⟩
    · simp only [mIn, Bool.and_eq_false_iff, decide_eq_false_iff_not, Int32.le_iff_toInt_le, e0, e1]
      omega
    · simp only [Int32.lt_iff_toInt_lt, e0, nI_toInt (n := n) (by omega)]
      omega
theorem mIn_nI {i n : Nat} (hn : n ≤ 1000) (hi : i < n) : mIn (nI i) 0 (nI n - 1) = true := by
  rcases mIn_np (nI i) hn with ⟨h, -⟩ | ⟨-, h⟩
  · exact h
  · exfalso
    simp only [Int32.lt_iff_toInt_lt, show (0 : Int32).toInt = 0 from rfl, nI_toInt (n := n) (by omega), nI_toInt (n := i) (by omega)] at h
    omega
theorem mIn_4 (v : Int32) : (mIn v 0 3 = true ∧ ∃ i, i < 4 ∧ v = nI i) ∨ (mIn v 0 3 = false ∧ (v < 0 ∨ ¬ v < 4)) := mIn_np v (n := 4) (by omega)
theorem mTwo_np {np nc nn : Nat} {χ : Nat → Nat} {μ : Nat → Nat → Int32} (h : q0 np nc nn χ μ) (a b : Int32) : (mTwo μ a b = true ∧ ∃ p q, p < np ∧ q < np ∧ a = nI p ∧ b = nI q) ∨ (mTwo μ a b = false ∧ ((a < 0 ∨ ¬ a < nI np) ∨ (b < 0 ∨ ¬ b < nI np))) := by
  obtain ⟨⟨n1, n2⟩, -⟩ := h
  rw [mTwo, n1]
  rcases mIn_np a (n := np) (by omega) with ⟨ha, p, hp, ea⟩ | ⟨ha, ea⟩
  · rcases mIn_np b (n := np) (by omega) with ⟨hb, q, hq, eb⟩ | ⟨hb, eb⟩
    · exact Or.inl ⟨by rw [ha, hb]; rfl, p, q, hp, hq, ea, eb⟩
    · exact Or.inr ⟨by rw [ha, hb]; rfl, Or.inr eb⟩
  · exact Or.inr ⟨by rw [ha]; rfl, Or.inl ea⟩
theorem mTwo_nI {np nc nn : Nat} {χ : Nat → Nat} {μ : Nat → Nat → Int32} (h : q0 np nc nn χ μ) {p q : Nat} (hp : p < np) (hq : q < np) : mTwo μ (nI p) (nI q) = true := by
  obtain ⟨⟨n1, n2⟩, -⟩ := h
  rw [mTwo, n1, mIn_nI (by omega) hp, mIn_nI (by omega) hq]
  rfl
theorem hom_q0 {np nc nn : Nat} {χ : Nat → Nat} {μ : Nat → Nat → Int32} (h : q0 np nc nn χ μ) {p : Nat} (hp : p < 10) : tn (μ 2 p) = χ p ∧ χ p < 4 := by
  have hx := h.2.1 p hp
  exact ⟨by rw [hx.1, tn_nI (by omega)], hx.2⟩
theorem mHb_q0 {np nc nn : Nat} {χ : Nat → Nat} {μ : Nat → Nat → Int32} (h : q0 np nc nn χ μ) {p : Nat} (hp : p < 10) : mHb μ p = kBit (χ p) := by
  rw [mHb, (hom_q0 h hp).1]
  rfl
theorem has_no {f m : Nat → Int32} {i p q : Nat} (h : rB f m i) (hp : p < 10) (hq : q < 10) : (kHas (f p) q = true) ↔ ¬ m (100 * i + 10 * p + q) = 0 := by
  rw [h.1 p q hp hq]
  simp
theorem mFlw_RR {np nc nn : Nat} {χ nau : Nat → Nat} {nkd nna nth nwe nso : Nat → Int32} {fk fp fa : Nat → Nat} {ft : Nat → Int32} {κ : Nat → Nat → Nat → Int32} {ζ : Nat → Nat → Nat → Int64} {lI pI : Nat → List Nat} {dl : Nat → Nat} {δ : Nat → Nat → Int32} {μ : Nat → Nat → Int32} {N : Nat} (h : RR np nc nn χ nau nkd nna nth nwe nso fk fp fa ft κ ζ lI pI dl δ μ N) {p q : Nat} (hp : p < np) (hq : q < np) : mFlw μ (nI p) (nI q) = if p = q then va_up μ 0 (fun _ => 2) else if kHas (κ (χ p) 0 p) q = true ∨ kHas (κ (χ p) 1 p) q = true ∨ kBet (κ (χ p)) p q = true then va_up μ 0 (fun _ => 3) else mAct (va_up μ 0 (fun _ => 0)) 0 p q 0 (kBit (χ q)) := by
  obtain ⟨h0, hW, hA, h2, h3, h4, hS, h6⟩ := h
  have hp10 : p < 10 := by have := h0.1.2; omega
  have hq10 : q < 10 := by have := h0.1.2; omega
  have hs := (hS _ (hom_q0 h0 hp10).2).1
  rw [mFlw, mTwo_nI h0 hp hq, if_neg (by decide), tn_nI (by omega), tn_nI (by omega), (hom_q0 h0 hp10).1, mHb_q0 h0 hq10, ← r4_bet hs hp10 hq10]
  simp only [has_no hs.1 hp10 hq10, has_no hs.2.1 hp10 hq10]
theorem mAns_RR {np nc nn : Nat} {χ nau : Nat → Nat} {nkd nna nth nwe nso : Nat → Int32} {fk fp fa : Nat → Nat} {ft : Nat → Int32} {κ : Nat → Nat → Nat → Int32} {ζ : Nat → Nat → Nat → Int64} {lI pI : Nat → List Nat} {dl : Nat → Nat} {δ : Nat → Nat → Int32} {μ : Nat → Nat → Int32} {N : Nat} (h : RR np nc nn χ nau nkd nna nth nwe nso fk fp fa ft κ ζ lI pI dl δ μ N) {p q : Nat} (b : Bool) (hp : p < np) (hq : q < np) : mAns μ (nI p) (nI q) b = if kHas (κ (χ p) 0 q) p = true then mAct (va_up μ 0 (fun _ => 0)) (if b = true then 1 else 2) p q 0 (kBit (χ q)) else va_up μ 0 (fun _ => 2) := by
  obtain ⟨h0, hW, hA, h2, h3, h4, hS, h6⟩ := h
  have hp10 : p < 10 := by have := h0.1.2; omega
  have hq10 : q < 10 := by have := h0.1.2; omega
  have hs := (hS _ (hom_q0 h0 hp10).2).1
  rw [mAns, mTwo_nI h0 hp hq, if_neg (by decide), tn_nI (by omega), tn_nI (by omega), (hom_q0 h0 hp10).1, mHb_q0 h0 hq10]
  simp only [has_no hs.1 hq10 hp10]
  by_cases c : μ 3 (100 * χ p + 10 * q + p) = 0
  · rw [if_pos c, if_neg (fun z => z c)]
  · rw [if_neg c, if_pos c]
theorem mLea_RR {np nc nn : Nat} {χ nau : Nat → Nat} {nkd nna nth nwe nso : Nat → Int32} {fk fp fa : Nat → Nat} {ft : Nat → Int32} {κ : Nat → Nat → Nat → Int32} {ζ : Nat → Nat → Nat → Int64} {lI pI : Nat → List Nat} {dl : Nat → Nat} {δ : Nat → Nat → Int32} {μ : Nat → Nat → Int32} {N : Nat} (h : RR np nc nn χ nau nkd nna nth nwe nso fk fp fa ft κ ζ lI pI dl δ μ N) {p q : Nat} (hp : p < np) (hq : q < np) : mLea μ (nI p) (nI q) = if kHas (κ (χ p) 0 p) q = true ∨ kHas (κ (χ p) 1 p) q = true then mAct (va_up μ 0 (fun _ => 0)) 3 p q 0 (kBit (χ q)) else va_up μ 0 (fun _ => 2) := by
  obtain ⟨h0, hW, hA, h2, h3, h4, hS, h6⟩ := h
  have hp10 : p < 10 := by have := h0.1.2; omega
  have hq10 : q < 10 := by have := h0.1.2; omega
  have hs := (hS _ (hom_q0 h0 hp10).2).1
  rw [mLea, mTwo_nI h0 hp hq, if_neg (by decide), tn_nI (by omega), tn_nI (by omega), (hom_q0 h0 hp10).1, mHb_q0 h0 hq10]
  simp only [has_no hs.1 hp10 hq10, has_no hs.2.1 hp10 hq10]
  by_cases c : μ 3 (100 * χ p + 10 * p + q) = 0 ∧ μ 4 (100 * χ p + 10 * p + q) = 0
  · rw [if_pos c, if_neg (fun z => z.elim (fun z => z c.1) (fun z => z c.2))]
  · rw [if_neg c, if_pos]
    by_cases d : μ 3 (100 * χ p + 10 * p + q) = 0
    · exact Or.inr (fun z => c ⟨d, z⟩)
    · exact Or.inl d
theorem mBlo_RR {np nc nn : Nat} {χ nau : Nat → Nat} {nkd nna nth nwe nso : Nat → Int32} {fk fp fa : Nat → Nat} {ft : Nat → Int32} {κ : Nat → Nat → Nat → Int32} {ζ : Nat → Nat → Nat → Int64} {lI pI : Nat → List Nat} {dl : Nat → Nat} {δ : Nat → Nat → Int32} {μ : Nat → Nat → Int32} {N : Nat} (h : RR np nc nn χ nau nkd nna nth nwe nso fk fp fa ft κ ζ lI pI dl δ μ N) {p q : Nat} (b : Bool) (hp : p < np) (hq : q < np) (hb : ∀ v, μ 5 v = 0 ∨ μ 5 v = 1) : mBlo μ (nI p) (nI q) b = if p = q then va_up μ 0 (fun _ => 2) else if kHas (κ (χ p) 2 p) q = b then va_up μ 0 (fun _ => 3) else mAct (va_up μ 0 (fun _ => 0)) (if b = true then 4 else 5) p q 0 (kBit (χ q)) := by
  obtain ⟨h0, hW, hA, h2, h3, h4, hS, h6⟩ := h
  have hp10 : p < 10 := by have := h0.1.2; omega
  have hq10 : q < 10 := by have := h0.1.2; omega
  have hs := (hS _ (hom_q0 h0 hp10).2).1
  rw [mBlo, mTwo_nI h0 hp hq, if_neg (by decide), tn_nI (by omega), tn_nI (by omega), (hom_q0 h0 hp10).1, mHb_q0 h0 hq10, hs.2.2.1.1 p q hp10 hq10]
  rcases hb (100 * χ p + 10 * p + q) with e | e <;> rw [e] <;> cases b <;> rfl
theorem mAli_RR {np nc nn : Nat} {χ nau : Nat → Nat} {nkd nna nth nwe nso : Nat → Int32} {fk fp fa : Nat → Nat} {ft : Nat → Int32} {κ : Nat → Nat → Nat → Int32} {ζ : Nat → Nat → Nat → Int64} {lI pI : Nat → List Nat} {dl : Nat → Nat} {δ : Nat → Nat → Int32} {μ : Nat → Nat → Int32} {N : Nat} (h : RR np nc nn χ nau nkd nna nth nwe nso fk fp fa ft κ ζ lI pI dl δ μ N) {p q : Nat} (hp : p < np) (hq : q < np) : mAli μ (nI p) (nI q) = if p = q then va_up μ 0 (fun _ => 2) else mAct (va_up μ 0 (fun _ => 0)) 6 p q 0 (kBit (χ q)) := by
  obtain ⟨h0, hW, hA, h2, h3, h4, hS, h6⟩ := h
  have hp10 : p < 10 := by have := h0.1.2; omega
  have hq10 : q < 10 := by have := h0.1.2; omega
  rw [mAli, mTwo_nI h0 hp hq, if_neg (by decide), tn_nI (by omega), tn_nI (by omega), mHb_q0 h0 hq10]
