/-! the class's state and the reference's -/
theorem mWF_rows {μ μ' : Nat → Nat → Int32} (h : mWF μ) (e1 : μ' 1 = μ 1) (e2 : μ' 2 = μ 2) (e12 : μ' 12 = μ 12) (e15 : μ' 15 = μ 15) (e18 : μ' 18 = μ 18) (e19 : μ' 19 = μ 19) (e20 : μ' 20 = μ 20) : mWF μ' := by
  unfold mWF
  rw [e1, e2, e12, e15, e18, e19, e20]
  exact h
def RR (np nc nn : Nat) (χ nau : Nat → Nat) (nkd nna nth nwe nso : Nat → Int32) (fk fp fa : Nat → Nat) (ft : Nat → Int32) (κ : Nat → Nat → Nat → Int32) (ζ : Nat → Nat → Nat → Int64) (lI pI : Nat → List Nat) (dl : Nat → Nat) (δ : Nat → Nat → Int32) (μ : Nat → Nat → Int32) (N : Nat) : Prop := q0 np nc nn χ μ ∧ mWF μ ∧ (∀ a, a < nc → aF fk fp fa ft np nn μ a) ∧ q2 np nn nau nkd nna nth μ ∧ q3 nn χ nau nkd nth nwe nso μ ∧ q4 nc nn fk fa δ μ ∧ (∀ i, i < 4 → qS (κ i) (ζ i) (δ i) (lI i) fk fp fa ft np nc μ i) ∧ q6 nc N pI dl δ μ
theorem qC_mu {np nc nn : Nat} {χ nau : Nat → Nat} {nkd nna nth : Nat → Int32} {μ : Nat → Nat → Int32} {j i : Nat} (h0 : q0 np nc nn χ μ) (h2 : q2 np nn nau nkd nna nth μ) (hj : j < nn) : (¬ μ 13 j = 0 ∨ μ 15 j < 0 ∨ ¬ tn (μ 2 (tn (μ 12 (tn (μ 15 j))))) = i) ↔ ¬ qC χ nkd nth j i := by
  obtain ⟨⟨n1, n2⟩, n3, n4, n5⟩ := h0
  obtain ⟨p1, p2, p3, p4, p5⟩ := h2 j hj
  rw [p3]
  rcases p5 with ⟨p6, p7⟩ | ⟨r, hr, p6, p7⟩
  · constructor
    · intro _ ⟨_, t, ht, e, _⟩
      rw [e] at p6
      have h9 := congrArg Int32.toInt p6
      rw [nI_toInt (by omega), show (-1 : Int32).toInt = -1 from by decide] at h9
      omega
    · intro _
      exact Or.inr (Or.inl (by rw [p7]; decide))
  · have e1 : tn (μ 15 j) = r := by rw [p6, tn_nI (by omega)]
    have hr10 : nau r < 10 := by have := (h2 r hr).2.1; omega
    have e2 : tn (μ 12 r) = nau r := by rw [(h2 r hr).1, tn_nI (by omega)]
    have e3 : tn (μ 2 (nau r)) = χ (nau r) := by rw [(n3 _ hr10).1, tn_nI (by have := (n3 _ hr10).2; omega)]
    have e4 : ¬ μ 15 j < 0 := by
      rw [p6, Int32.lt_iff_toInt_lt, nI_toInt (by omega), show (0 : Int32).toInt = 0 from rfl]
      omega
    rw [e1, e2, e3]
    constructor
    · intro c ⟨d1, t, ht, e, d2⟩
      have h9 := congrArg tn (p7.symm.trans e)
      rw [tn_nI (by omega), tn_nI (by omega)] at h9
      rw [h9] at c
      rcases c with c | c | c
      · exact c d1
      · exact e4 c
      · exact c d2
    · intro c
      by_cases d : nkd j = 0
      · exact Or.inr (Or.inr fun d2 => c ⟨d, nau r, hr10, p7, d2⟩)
      · exact Or.inl d
theorem mDo_n {np nc nn : Nat} {χ nau : Nat → Nat} {nkd nna nth nwe nso : Nat → Int32} {fk fp fa : Nat → Nat} {ft : Nat → Int32} {κ : Nat → Nat → Nat → Int32} {ζ : Nat → Nat → Nat → Int64} {lI pI : Nat → List Nat} {dl : Nat → Nat} {δ : Nat → Nat → Int32} {μ : Nat → Nat → Int32} {N : Nat} {i a : Nat} (h : RR np nc nn χ nau nkd nna nth nwe nso fk fp fa ft κ ζ lI pI dl δ μ N) (hi : i < 4) (ha : a < nc) (hc : ¬ ((fk a = 8 ∨ fk a = 9) ∧ qC χ nkd nth (fa a) i)) {r : Nat} (hr : r = 9 ∨ r = 23 ∨ r = 25) : mDo μ i a r = μ r := by
  obtain ⟨h0, hW, hA, h2, h3, h4, hS, h6⟩ := h
  obtain ⟨⟨e1, e2, e3, e4⟩, b1, b2, b3, b4, b5⟩ := hA a ha
  have h0' := h0
  obtain ⟨⟨n1, n2⟩, n3, ⟨n4, n5⟩, n6, n7⟩ := h0
  have hfa : fa a < 50 := (Nat.lt_or_ge (fk a) 8).elim (fun c => Nat.lt_of_lt_of_le (b3 c) (by omega)) (fun c => Nat.lt_of_lt_of_le (b4 c) n7)
  have t1 : tn (μ 18 a) = fk a := by rw [e1, tn_nI (by omega)]
  have t2 : tn (μ 19 a) = fp a := by rw [e2, tn_nI (by omega)]
  have t3 : tn (μ 20 a) = fa a := by rw [e3, tn_nI (by omega)]
  have w : ∀ k, k ≠ 22 → mW μ i a k = μ k := fun k hk => va_up_ne _ _ hk
  have r3 : r ≠ 3 ∧ r ≠ 4 ∧ r ≠ 5 ∧ r ≠ 6 ∧ r ≠ 7 ∧ r ≠ 8 ∧ r ≠ 10 ∧ r ≠ 22 := by omega
  obtain ⟨r3, r4, r5, r6, r7, r8, r10, r22⟩ := r3
  rw [mDo, t1, t2, t3, e4]
  show (if 8 ≤ fk a then mDoP (mW μ i a) i a else mDo1 (mW μ i a) i (fk a) (fp a) (fa a) (ft a)) r = _
  by_cases c : 8 ≤ fk a
  · have hj := b4 c
    rw [if_pos c, mDoP, w 18 (by decide), w 20 (by decide), w 19 (by decide), t1, t2, t3]
    by_cases c8 : fk a = 8
    · rw [if_pos c8, mSdo]
      rw [if_pos]
      · rw [va_up_ne _ _ r7]; exact w r r22
      · exact (qC_mu (i := i) h0' h2 hj).mpr (fun q => hc ⟨Or.inl c8, q⟩)
    · rw [if_neg c8]
      by_cases c9 : fk a = 9
      · rw [if_pos c9]
        have z : μ 9 (50 * i + fa a) = 0 := (h3 _ hj).1 i hi (fun q => hc ⟨Or.inr c9, q⟩)
        rw [w 9 (by decide), z, mSnd_0 _ _ 4 (by omega)]
        split
        · rw [va_up_ne _ _ r8, va_up_ne _ _ r7]; exact w r r22
        · rw [va_up_ne _ _ r8, va_up_ne _ _ r7]; exact w r r22
      · rw [if_neg c9, va_up_ne _ _ r7, va_up_ne _ _ r10]; exact w r r22
  · rw [if_neg c, mDo1_k _ _ _ _ _ _ r3 r4 r5 r6]; exact w r r22
theorem mDo_8 {np nc nn : Nat} {χ nau : Nat → Nat} {nkd nna nth nwe nso : Nat → Int32} {fk fp fa : Nat → Nat} {ft : Nat → Int32} {κ : Nat → Nat → Nat → Int32} {ζ : Nat → Nat → Nat → Int64} {lI pI : Nat → List Nat} {dl : Nat → Nat} {δ : Nat → Nat → Int32} {μ : Nat → Nat → Int32} {N : Nat} {i a t : Nat} (h : RR np nc nn χ nau nkd nna nth nwe nso fk fp fa ft κ ζ lI pI dl δ μ N) (hi : i < 4) (ha : a < nc) (hd : δ i a = 0) (h8 : fk a = 8) (hk : nkd (fa a) = 0) (ht : t < 10) (he : nth (fa a) = nI t) (hx : χ t = i) : ∃ M : Nat → Nat → Int32, mDo μ i a = mSnd M (nI a) (rTo2 χ (κ i) t i (nau (fa a)) np (nwe (fa a))) 4 ∧ M 9 = upd (μ 9) (50 * i + fa a) (rTo2 χ (κ i) t i (nau (fa a)) np (nwe (fa a))) ∧ M 23 = μ 23 ∧ M 24 = μ 24 ∧ M 25 = μ 25 := by
  obtain ⟨h0, hW, hA, h2, h3, h4, hS, h6⟩ := h
  obtain ⟨⟨e1, e2, e3, e4⟩, b1, b2, b3, b4, b5⟩ := hA a ha
  have h0' := h0
  obtain ⟨⟨n1, n2⟩, n3, ⟨n4, n5⟩, n6, n7⟩ := h0
  have hj := b4 (by omega)
  have t1 : tn (μ 18 a) = fk a := by rw [e1, tn_nI (by omega)]
  have t3 : tn (μ 20 a) = fa a := by rw [e3, tn_nI (by omega)]
  have w : ∀ k, k ≠ 22 → mW μ i a k = μ k := fun k hk => va_up_ne _ _ hk
  obtain ⟨M0, hM0⟩ : ∃ M0 : Nat → Nat → Int32, M0 = va_up (mW μ i a) 7 (upd (mW μ i a 7) (50 * i + fa a) (bI (decide (mW μ i a 8 (50 * i + fa a) = 0)))) := ⟨_, rfl⟩
  have hm : ∀ k, k ≠ 7 → k ≠ 22 → M0 k = μ k := fun k h7 h22 => by rw [hM0, va_up_ne _ _ h7]; exact w k h22
  have hz : μ 9 (50 * i + fa a) = 0 := h4.1 i a hi ha h8 hd
  have hset : mSet M0 i (fa a) = rTo2 χ (κ i) t i (nau (fa a)) np (nwe (fa a)) := by
    refine mSet_r (nc := nc) (nn := nn) (nau := nau) (nkd := nkd) (nna := nna) (nth := nth) (nwe := nwe) (nso := nso) ?_ ?_ ?_ ?_ hj ht he ?_
    · unfold q0; rw [hm 1 (by decide) (by decide), hm 2 (by decide) (by decide), hm 17 (by decide) (by decide), hm 11 (by decide) (by decide)]; exact h0'
    · unfold q2; rw [hm 12 (by decide) (by decide), hm 13 (by decide) (by decide), hm 14 (by decide) (by decide), hm 15 (by decide) (by decide)]; exact h2
    · unfold q3; rw [hm 9 (by decide) (by decide), hm 16 (by decide) (by decide)]; exact h3
    · exact r4_s4 (hS i hi).1 (s4_rows (hm 3 (by decide) (by decide)) (hm 4 (by decide) (by decide)) (hm 5 (by decide) (by decide)) (hm 6 (by decide) (by decide)))
    · rw [hm 9 (by decide) (by decide)]; exact hz
  refine ⟨va_up M0 9 (upd (M0 9) (50 * i + fa a) (mSet M0 i (fa a))), ?_, ?_, ?_, ?_, ?_⟩
  · rw [mDo, t1, if_pos (by omega)]
    show mDoP (mW μ i a) i a = _
    rw [mDoP, w 18 (by decide), w 20 (by decide), t1, t3, if_pos h8, ← hM0, mSdo, if_neg, hset]
    intro q
    rw [hm 13 (by decide) (by decide), hm 15 (by decide) (by decide), hm 2 (by decide) (by decide), hm 12 (by decide) (by decide)] at q
    exact (qC_mu (i := i) h0' h2 hj).mp q ⟨hk, t, ht, he, hx⟩
  · rw [va_up_self, hset, hm 9 (by decide) (by decide)]
  · rw [va_up_ne _ _ (by decide)]; exact hm 23 (by decide) (by decide)
  · rw [va_up_ne _ _ (by decide)]; exact hm 24 (by decide) (by decide)
  · rw [va_up_ne _ _ (by decide)]; exact hm 25 (by decide) (by decide)
theorem mDo_9 {np nc nn : Nat} {χ nau : Nat → Nat} {nkd nna nth nwe nso : Nat → Int32} {fk fp fa : Nat → Nat} {ft : Nat → Int32} {κ : Nat → Nat → Nat → Int32} {ζ : Nat → Nat → Nat → Int64} {lI pI : Nat → List Nat} {dl : Nat → Nat} {δ : Nat → Nat → Int32} {μ : Nat → Nat → Int32} {N : Nat} {i a t : Nat} (h : RR np nc nn χ nau nkd nna nth nwe nso fk fp fa ft κ ζ lI pI dl δ μ N) (hi : i < 4) (ha : a < nc) (h9 : fk a = 9) (hk : nkd (fa a) = 0) (ht : t < 10) (he : nth (fa a) = nI t) (hx : χ t = i) : ∃ M : Nat → Nat → Int32, mDo μ i a = mSnd M (nI a) (nso (fa a)) 4 ∧ M 9 = μ 9 ∧ M 23 = μ 23 ∧ M 24 = μ 24 ∧ M 25 = μ 25 := by
  obtain ⟨h0, hW, hA, h2, h3, h4, hS, h6⟩ := h
  obtain ⟨⟨e1, e2, e3, e4⟩, b1, b2, b3, b4, b5⟩ := hA a ha
  have h0' := h0
  obtain ⟨⟨n1, n2⟩, n3, ⟨n4, n5⟩, n6, n7⟩ := h0
  have hj := b4 (by omega)
  have hau := (h2 _ hj).2.1
  have t1 : tn (μ 18 a) = fk a := by rw [e1, tn_nI (by omega)]
  have t3 : tn (μ 20 a) = fa a := by rw [e3, tn_nI (by omega)]
  have w : ∀ k, k ≠ 22 → mW μ i a k = μ k := fun k hk => va_up_ne _ _ hk
  obtain ⟨M0, hM0⟩ : ∃ M0 : Nat → Nat → Int32, M0 = va_up (va_up (mW μ i a) 7 (upd (mW μ i a 7) (50 * i + fa a) 0)) 8 (upd (mW μ i a 8) (50 * i + fa a) 1) := ⟨_, rfl⟩
  have hm : ∀ k, k ≠ 7 → k ≠ 8 → k ≠ 22 → M0 k = μ k := fun k h7 h8 h22 => by rw [hM0, va_up_ne _ _ h8, va_up_ne _ _ h7]; exact w k h22
  have e12 : tn (μ 12 (fa a)) = nau (fa a) := by rw [(h2 _ hj).1, tn_nI (by omega)]
  have e2' : tn (μ 2 (nau (fa a))) = χ (nau (fa a)) := by rw [(n3 _ (by omega)).1, tn_nI (by have := (n3 (nau (fa a)) (by omega)).2; omega)]
  refine ⟨M0, ?_, hm 9 (by decide) (by decide) (by decide), hm 23 (by decide) (by decide) (by decide), hm 24 (by decide) (by decide) (by decide), hm 25 (by decide) (by decide) (by decide)⟩
  rw [mDo, t1, if_pos (by omega)]
  show mDoP (mW μ i a) i a = _
  rw [mDoP, w 18 (by decide), w 20 (by decide), w 12 (by decide), w 2 (by decide), w 9 (by decide), t1, t3, if_neg (by omega), if_pos h9, ← hM0, e12, e2', (h3 _ hj).2.2.2 t ht he, hx]
  by_cases c : i = χ (nau (fa a))
  · rw [if_pos c, if_pos c, mSnd_0 _ _ 4 (by omega)]
  · rw [if_neg c, if_neg c]
