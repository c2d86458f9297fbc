/-! deliveries and people -/
theorem RR_dl {np nc nn : Nat} {χ nau : Nat → Nat} {nkd nna nth nwe nso : Nat → Int32} {fk fp fa : Nat → Nat} {ft : Nat → Int32} {κ : Nat → Nat → Nat → Int32} {ζ : Nat → Nat → Nat → Int64} {lI pI : Nat → List Nat} {dl : Nat → Nat} {δ : Nat → Nat → Int32} {μ : Nat → Nat → Int32} {N : Nat} (h : RR np nc nn χ nau nkd nna nth nwe nso fk fp fa ft κ ζ lI pI dl δ μ N) {s : Nat} (hs : s < 4) (hd : dl s < (pI s).length) : RR np nc nn χ nau nkd nna nth nwe nso fk fp fa ft κ ζ lI pI (va_up dl s (dl s + 1)) δ (va_up μ 24 (upd (μ 24) s (nI (dl s + 1)))) N := by
  obtain ⟨h0, hW, hA, h2, h3, h4, hS, h6⟩ := h
  refine ⟨h0, hW, hA, h2, h3, h4, fun i hi => qS_rows (hS i hi) ⟨rfl, rfl, rfl, rfl, rfl, rfl, rfl, rfl⟩, rP_rows h6.1 rfl rfl, fun i hi => ?_, h6.2.2⟩
  obtain ⟨g1, g2, g3⟩ := h6.2.1 i hi
  show upd (μ 24) s (nI (dl s + 1)) i = _ ∧ _
  by_cases c : i = s
  · subst c
    rw [upd_same, va_up_self]
    exact ⟨rfl, by omega, g3⟩
  · rw [upd_ne _ _ c, va_up_ne _ _ c]
    exact ⟨g1, g2, g3⟩
theorem mDlv_RR {np nc nn : Nat} {χ nau : Nat → Nat} {nkd nna nth nwe nso : Nat → Int32} {fk fp fa : Nat → Nat} {ft : Nat → Int32} {κ : Nat → Nat → Nat → Int32} {ζ : Nat → Nat → Nat → Int64} {lI pI : Nat → List Nat} {dl : Nat → Nat} {δ : Nat → Nat → Int32} {μ : Nat → Nat → Int32} {N : Nat} (h : RR np nc nn χ nau nkd nna nth nwe nso fk fp fa ft κ ζ lI pI dl δ μ N) {s : Nat} (hs : s < 4) (hN : N < 1200) : mDlv μ (nI s) = (if dl s = (pI s).length then va_up μ 0 (fun _ => 0) else if μ 22 (600 * s + mDlvA μ s) = 0 then mDo (va_up (va_up μ 0 (fun _ => 0)) 24 (upd (μ 24) s (nI (dl s + 1)))) s (mDlvA μ s) else va_up (va_up μ 0 (fun _ => 0)) 24 (upd (μ 24) s (nI (dl s + 1)))) ∧ mDlvR μ (nI s) = (if dl s = (pI s).length then -1 else μ 18 (mDlvA μ s)) ∧ ∀ a, (pI s)[dl s]? = some a → mDlvA μ s = a ∧ a < nc ∧ μ 18 a = nI (fk a) ∧ μ 22 (600 * s + a) = δ s a := by
  obtain ⟨h0, hW, hA, h2, h3, h4, hS, h6⟩ := h
  obtain ⟨g1, g2, g3⟩ := h6.2.1 s hs
  obtain ⟨g4, g5⟩ := h6.1 s hs
  have i3 : mIn (nI s) 0 3 = true := mIn_nI (n := 4) (by omega) hs
  have e1 : tn (μ 24 s) = dl s := by rw [g1, tn_nI (by omega)]
  have e2 : tn (μ 25 s) = (pI s).length := by rw [g4, tn_nI (by omega)]
  refine ⟨?_, ?_, fun a ha => ?_⟩
  · rw [mDlv, i3, if_neg (by decide), tn_nI (by omega), e1, e2]
  · rw [mDlvR, i3, if_neg (by decide), tn_nI (by omega), e1, e2]
  · obtain ⟨y1, y2⟩ := g5 _ _ ha
    have n5 := h0.2.2.1.2
    exact ⟨by rw [mDlvA, e1, y2, tn_nI (by omega)], y1, (hA a y1).1.1, ((hS s hs).2.2.2.1.1 a (by omega)).symm⟩
theorem mRep_RR {np nc nn : Nat} {χ nau : Nat → Nat} {nkd nna nth nwe nso : Nat → Int32} {fk fp fa : Nat → Nat} {ft : Nat → Int32} {κ : Nat → Nat → Nat → Int32} {ζ : Nat → Nat → Nat → Int64} {lI pI : Nat → List Nat} {dl : Nat → Nat} {δ : Nat → Nat → Int32} {μ : Nat → Nat → Int32} {N : Nat} (h : RR np nc nn χ nau nkd nna nth nwe nso fk fp fa ft κ ζ lI pI dl δ μ N) {s : Nat} (hs : s < 4) (hN : N < 1200) : mRep μ (nI s) = va_up μ 0 (fun _ => 0) ∧ (dl s = 0 → mRepR μ (nI s) = -1) ∧ ∀ a, 0 < dl s → (pI s)[dl s - 1]? = some a → mRepR μ (nI s) = nI (fk a) ∧ a < nc := by
  obtain ⟨h0, hW, hA, h2, h3, h4, hS, h6⟩ := h
  obtain ⟨g1, g2, g3⟩ := h6.2.1 s hs
  obtain ⟨g4, g5⟩ := h6.1 s hs
  have i3 : mIn (nI s) 0 3 = true := mIn_nI (n := 4) (by omega) hs
  have e1 : tn (μ 24 s) = dl s := by rw [g1, tn_nI (by omega)]
  refine ⟨?_, fun z => ?_, fun a h1 ha => ?_⟩
  · rw [mRep, i3, if_neg (by decide)]
  · rw [mRepR, i3, if_neg (by decide), tn_nI (by omega), e1, if_pos z]
  · obtain ⟨y1, y2⟩ := g5 _ _ ha
    have n5 := h0.2.2.1.2
    refine ⟨?_, y1⟩
    rw [mRepR, i3, if_neg (by decide), tn_nI (by omega), e1, if_neg (by omega), show 1200 * s + dl s - 1 = 1200 * s + (dl s - 1) by omega, y2, tn_nI (by omega)]
    exact (hA a y1).1.1
theorem mPer_RR {np nc nn : Nat} {χ nau : Nat → Nat} {nkd nna nth nwe nso : Nat → Int32} {fk fp fa : Nat → Nat} {ft : Nat → Int32} {κ : Nat → Nat → Nat → Int32} {ζ : Nat → Nat → Nat → Int64} {lI pI : Nat → List Nat} {dl : Nat → Nat} {δ : Nat → Nat → Int32} {μ : Nat → Nat → Int32} {N : Nat} (h : RR np nc nn χ nau nkd nna nth nwe nso fk fp fa ft κ ζ lI pI dl δ μ N) {s : Nat} (hs : s < 4) : mPer μ (nI s) = (if np = 10 then va_up μ 0 (fun _ => 2) else va_up (va_up (va_up μ 0 (fun _ => 0)) 2 (upd (μ 2) np (nI s))) 1 (fun _ => nI (np + 1))) ∧ mPerR μ (nI s) = (if np = 10 then 0 else nI np) := by
  have i3 : mIn (nI s) 0 3 = true := mIn_nI (n := 4) (by omega) hs
  have e1 : tn (μ 1 0) = np := by rw [h.1.1.1, tn_nI (by have := h.1.1.2; omega)]
  exact ⟨by rw [mPer, i3, if_neg (by decide), e1], by rw [mPerR, i3, if_neg (by decide), e1]⟩
theorem RR_per {np nc nn : Nat} {χ nau : Nat → Nat} {nkd nna nth nwe nso : Nat → Int32} {fk fp fa : Nat → Nat} {ft : Nat → Int32} {κ : Nat → Nat → Nat → Int32} {ζ : Nat → Nat → Nat → Int64} {lI pI : Nat → List Nat} {dl : Nat → Nat} {δ : Nat → Nat → Int32} {μ : Nat → Nat → Int32} {N : Nat} (h : RR np nc nn χ nau nkd nna nth nwe nso fk fp fa ft κ ζ lI pI dl δ μ N) {s : Nat} (hs : s < 4) (hn : np < 10) : RR (np + 1) nc nn (va_up χ np s) nau nkd nna nth nwe nso fk fp fa ft κ ζ lI pI dl δ (va_up (va_up μ 2 (upd (μ 2) np (nI s))) 1 (fun _ => nI (np + 1))) N := by
  obtain ⟨h0, hW, hA, h2, h3, h4, hS, h6⟩ := h
  obtain ⟨⟨n1, n2⟩, n3, n4, n5⟩ := h0
  have hx : ∀ t, t < np → va_up χ np s t = χ t := fun t ht => va_up_ne _ _ (by omega)
  refine ⟨⟨⟨rfl, by omega⟩, fun j hj => ?_, n4, n5⟩, ?_, fun a ha => ?_, fun j hj => ?_, fun j hj => ?_, h4, fun i hi => ?_, q6_rows h6 rfl rfl rfl⟩
  · show upd (μ 2) np (nI s) j = _ ∧ _
    by_cases c : j = np
    · rw [c, upd_same, va_up_self]; exact ⟨rfl, hs⟩
    · rw [upd_ne _ _ c, va_up_ne _ _ c]; exact n3 j hj
  · obtain ⟨w1, w2, w3, w4, w5⟩ := hW
    refine ⟨isN_nI (k := np + 1) (by omega) (by omega), fun j hj => ?_, w3, w4, w5⟩
    show isN (upd (μ 2) np (nI s) j) 4
    by_cases c : j = np
    · rw [c, upd_same]; exact isN_nI hs (by omega)
    · rw [upd_ne _ _ c]; exact w2 j hj
  · obtain ⟨b0, b1, b2, b3, b4, b5⟩ := hA a ha
    exact ⟨b0, b1, by omega, fun q => by have := b3 q; omega, b4, fun f hf q => by have := b5 f hf q; omega⟩
  · obtain ⟨b0, b1, b2, b3, b4⟩ := h2 j hj
    exact ⟨b0, by omega, b2, b3, b4⟩
  · obtain ⟨c1, c2, c3, c4⟩ := h3 j hj
    obtain ⟨b0, b1, b2, b3, b4⟩ := h2 j hj
    have ht : ∀ t, t < 10 → nth j = nI t → t < np := by
      intro t ht e
      rcases b4 with ⟨b5, -⟩ | ⟨r, hr, -, b6⟩
      · exfalso
        rw [e] at b5
        have h9 := congrArg Int32.toInt b5
        rw [nI_toInt (by omega), show (-1 : Int32).toInt = -1 from by decide] at h9
        omega
      · have hr2 := (h2 r hr).2.1
        have h9 := congrArg tn (b6.symm.trans e)
        rw [tn_nI (by omega), tn_nI (by omega)] at h9
        omega
    refine ⟨fun k hk q => c1 k hk (fun ⟨d1, t, d2, d3, d4⟩ => q ⟨d1, t, d2, d3, by rw [hx t (ht t d2 d3)]; exact d4⟩), ?_, c3, fun t d2 d3 => ?_⟩
    · rw [hx _ b1]; exact c2
    · rw [hx _ b1, hx t (ht t d2 d3)]; exact c4 t d2 d3
  · obtain ⟨s4, s5, sI, sD, sk, sz⟩ := qS_rows (μ' := va_up (va_up μ 2 (upd (μ 2) np (nI s))) 1 (fun _ => nI (np + 1))) (hS i hi) ⟨rfl, rfl, rfl, rfl, rfl, rfl, rfl, rfl⟩
    exact ⟨s4, s5, I4_mono sI (by omega), sD, sk, sz⟩
