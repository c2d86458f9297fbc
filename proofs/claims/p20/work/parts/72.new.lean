/-! a post is checked and written down -/
def pG (np : Nat) (k a : Int32) : Prop := ¬ k < 0 ∧ ¬ 2 < k ∧ ¬ a < 0 ∧ a >>> (nI np &&& 31) = 0
theorem mIn_02 (k : Int32) : mIn k 0 2 = true ↔ ¬ k < 0 ∧ ¬ 2 < k := by
  simp only [mIn, Bool.and_eq_true, decide_eq_true_eq, Int32.not_lt]
theorem pG_iff {np : Nat} (hn : np ≤ 10) (k a : Int32) : (mIn k 0 2 = false ∨ mIn a 0 ((1 : Int32) <<< (nI np &&& 31) - 1) = false) ↔ ¬ pG np k a := by
  have e1 := mIn_02 k
  constructor
  · intro h ⟨g1, g2, g3, g4⟩
    rcases h with h | h
    · rw [e1.mpr ⟨g1, g2⟩] at h; exact absurd h (by decide)
    · rw [(named_np hn g3).mp g4] at h; exact absurd h (by decide)
  · intro h
    by_cases c : mIn k 0 2 = true
    · refine Or.inr (Bool.eq_false_iff.mpr fun z => h ⟨(e1.mp c).1, (e1.mp c).2, ?_⟩)
      have g3 : ¬ a < 0 := by
        simp only [mIn, Bool.and_eq_true, decide_eq_true_eq] at z
        exact Int32.not_lt.mpr z.1
      exact ⟨g3, (named_np hn g3).mpr z⟩
    · exact Or.inl (Bool.eq_false_iff.mpr c)
theorem mPosT_0 {np nc nn : Nat} {χ nau : Nat → Nat} {nkd nna nth nwe nso : Nat → Int32} {fk fp fa : Nat → Nat} {ft : Nat → Int32} {κ : Nat → Nat → Nat → Int32} {ζ : Nat → Nat → Nat → Int64} {lI pI : Nat → List Nat} {dl : Nat → Nat} {δ : Nat → Nat → Int32} {μ : Nat → Nat → Int32} {N : Nat} (h : RR np nc nn χ nau nkd nna nth nwe nso fk fp fa ft κ ζ lI pI dl δ μ N) {p : Nat} (hp : p < np) (k a : Int32) [Decidable (pG np k a)] : mPosT μ (nI p) k a (-1) = if ¬ pG np k a then 2 else if nn = 50 then 3 else 0 := by
  have h0 := h.1
  have i1 : mIn (nI p) 0 (μ 1 0 - 1) = true := by rw [h0.1.1]; exact mIn_nI (by have := h0.1.2; omega) hp
  have en : tn (μ 11 0) = nn := by rw [h0.2.2.2.1, tn_nI (by have := h0.2.2.2.2; omega)]
  rw [mPosT, i1, if_neg (by simp), en, h0.1.1]
  have c1 := pG_iff h0.1.2 k a
  by_cases c : pG np k a
  · have c2 : ¬ (mIn k 0 2 = false ∨ mIn a 0 ((1 : Int32) <<< (nI np &&& 31) - 1) = false) := fun z => c1.mp z c
    rw [if_neg c2]
    have c3 : ¬ ¬ pG np k a := fun z => z c
    rw [if_neg c3]
    by_cases d : nn = 50
    · rw [if_pos (Or.inl d), if_pos d]
    · have c4 : ¬ (nn = 50 ∨ ¬ (-1 : Int32) < 0 ∧ mSeen μ (tn (nI p)) (tn (-1)) = false) := fun z => z.elim d (fun y => y.1 (by decide))
      rw [if_neg c4, if_neg d]
  · rw [if_pos (c1.mpr c), if_pos c]
theorem mPosT_r {np nc nn : Nat} {χ nau : Nat → Nat} {nkd nna nth nwe nso : Nat → Int32} {fk fp fa : Nat → Nat} {ft : Nat → Int32} {κ : Nat → Nat → Nat → Int32} {ζ : Nat → Nat → Nat → Int64} {lI pI : Nat → List Nat} {dl : Nat → Nat} {δ : Nat → Nat → Int32} {μ : Nat → Nat → Int32} {N : Nat} (h : RR np nc nn χ nau nkd nna nth nwe nso fk fp fa ft κ ζ lI pI dl δ μ N) {p ri : Nat} (hp : p < np) (hr : ri < nn) (k a : Int32) [Decidable (pG np k a)] : mPosT μ (nI p) k a (nI ri) = if ¬ pG np k a then 2 else if nn = 50 ∨ kSee (κ (χ p)) (ζ (χ p)) p ri (nau ri) (nkd ri) (nna ri) = false then 3 else 0 := by
  have hse := mSeen_RR h hp hr
  have h0 := h.1
  have n5 := h0.2.2.2.2
  have n2 := h0.1.2
  have i1 : mIn (nI p) 0 (μ 1 0 - 1) = true := by rw [h0.1.1]; exact mIn_nI (by omega) hp
  have i2 : mIn (nI ri) 0 (μ 11 0 - 1) = true := by rw [h0.2.2.2.1]; exact mIn_nI (by omega) hr
  have en : tn (μ 11 0) = nn := by rw [h0.2.2.2.1, tn_nI (by omega)]
  have i3 : ¬ nI ri < 0 := by
    rw [Int32.lt_iff_toInt_lt, nI_toInt (by omega), show (0 : Int32).toInt = 0 from rfl]
    omega
  rw [mPosT, i1, i2, if_neg (by simp), en, h0.1.1, tn_nI (by omega), tn_nI (by omega), hse]
  have c1 := pG_iff h0.1.2 k a
  by_cases c : pG np k a
  · have c2 : ¬ (mIn k 0 2 = false ∨ mIn a 0 ((1 : Int32) <<< (nI np &&& 31) - 1) = false) := fun z => c1.mp z c
    rw [if_neg c2]
    have c3 : ¬ ¬ pG np k a := fun z => z c
    rw [if_neg c3]
    by_cases d : nn = 50 ∨ kSee (κ (χ p)) (ζ (χ p)) p ri (nau ri) (nkd ri) (nna ri) = false
    · have c4 : nn = 50 ∨ ¬ nI ri < 0 ∧ kSee (κ (χ p)) (ζ (χ p)) p ri (nau ri) (nkd ri) (nna ri) = false := d.elim Or.inl (fun z => Or.inr ⟨i3, z⟩)
      rw [if_pos c4, if_pos d]
    · have c4 : ¬ (nn = 50 ∨ ¬ nI ri < 0 ∧ kSee (κ (χ p)) (ζ (χ p)) p ri (nau ri) (nkd ri) (nna ri) = false) := fun z => d (z.elim Or.inl (fun y => Or.inr y.2))
      rw [if_neg c4, if_neg d]
  · rw [if_pos (c1.mpr c), if_pos c]
theorem RR_pos0 {np nc nn : Nat} {χ nau : Nat → Nat} {nkd nna nth nwe nso : Nat → Int32} {fk fp fa : Nat → Nat} {ft : Nat → Int32} {κ : Nat → Nat → Nat → Int32} {ζ : Nat → Nat → Nat → Int64} {lI pI : Nat → List Nat} {dl : Nat → Nat} {δ : Nat → Nat → Int32} {μ : Nat → Nat → Int32} {N : Nat} (h : RR np nc nn χ nau nkd nna nth nwe nso fk fp fa ft κ ζ lI pI dl δ μ N) {p : Nat} (hp : p < np) (hn : nn < 50) (k a r th : Int32) (hr : (th = -1 ∧ r = -1) ∨ ∃ ri, ri < nn ∧ r = nI ri ∧ th = nI (nau ri)) : RR np nc (nn + 1) χ (va_up nau nn p) (va_up nkd nn k) (va_up nna nn a) (va_up nth nn th) (va_up nwe nn (mTo μ (nI p) k a r &&& (kBit (χ p) ^^^ (-1)))) (va_up nso nn 0) fk fp fa ft κ ζ lI pI dl δ (mPos0 μ (nI p) k a r) N := by
  obtain ⟨h0, hW, hA, h2, h3, h4, hS, h6⟩ := h
  have h0' := h0
  obtain ⟨⟨n1, n2⟩, n3, n4, ⟨n6, n7⟩⟩ := h0
  have hp10 : p < 10 := by omega
  have en : tn (μ 11 0) = nn := by rw [n6, tn_nI (by omega)]
  have r11 : mPos0 μ (nI p) k a r 11 = fun _ => nI (nn + 1) := by rw [mPos0, en]; rfl
  have r12 : mPos0 μ (nI p) k a r 12 = upd (μ 12) nn (nI p) := by rw [mPos0, en, tn_nI (by omega)]; rfl
  have r13 : mPos0 μ (nI p) k a r 13 = upd (μ 13) nn k := by rw [mPos0, en]; rfl
  have r14 : mPos0 μ (nI p) k a r 14 = upd (μ 14) nn a := by rw [mPos0, en]; rfl
  have r15 : mPos0 μ (nI p) k a r 15 = upd (μ 15) nn r := by rw [mPos0, en]; rfl
  have r16 : mPos0 μ (nI p) k a r 16 = upd (μ 16) nn (mTo μ (nI p) k a r &&& (kBit (χ p) ^^^ (-1))) := by
    rw [← mHb_q0 h0' hp10, mPos0, en, tn_nI (by omega)]; rfl
  have e : ∀ q, q ≠ 0 → q ≠ 11 → q ≠ 12 → q ≠ 13 → q ≠ 14 → q ≠ 15 → q ≠ 16 → mPos0 μ (nI p) k a r q = μ q := fun q a0 a1 a2 a3 a4 a5 a6 => by
    rw [mPos0, va_up_ne _ _ a1, va_up_ne _ _ a6, va_up_ne _ _ a5, va_up_ne _ _ a4, va_up_ne _ _ a3, va_up_ne _ _ a2, va_up_ne _ _ a0]
  have e1 := e 1 (by decide) (by decide) (by decide) (by decide) (by decide) (by decide) (by decide)
  have e2 := e 2 (by decide) (by decide) (by decide) (by decide) (by decide) (by decide) (by decide)
  have e9 := e 9 (by decide) (by decide) (by decide) (by decide) (by decide) (by decide) (by decide)
  have e17 := e 17 (by decide) (by decide) (by decide) (by decide) (by decide) (by decide) (by decide)
  have e18 := e 18 (by decide) (by decide) (by decide) (by decide) (by decide) (by decide) (by decide)
  have e19 := e 19 (by decide) (by decide) (by decide) (by decide) (by decide) (by decide) (by decide)
  have e20 := e 20 (by decide) (by decide) (by decide) (by decide) (by decide) (by decide) (by decide)
  have e21 := e 21 (by decide) (by decide) (by decide) (by decide) (by decide) (by decide) (by decide)
  refine ⟨?_, ?_, fun b hb => ?_, fun j hj => ?_, fun j hj => ?_, ?_, fun i hi => qS_rows (hS i hi) ⟨?_, ?_, ?_, ?_, ?_, ?_, ?_, ?_⟩, q6_rows h6 ?_ ?_ ?_⟩
  · unfold q0; rw [e1, e2, e17, r11]; exact ⟨⟨n1, n2⟩, n3, n4, rfl, by omega⟩
  · obtain ⟨w1, w2, w3, w4, w5⟩ := hW
    unfold mWF
    rw [e1, e2, r12, r15, e18, e19, e20]
    refine ⟨w1, w2, fun j hj => ?_, fun j hj => ?_, w5⟩
    · by_cases c : j = nn
      · rw [c, upd_same]; exact isN_nI hp10 (by omega)
      · rw [upd_ne _ _ c]; exact w3 j hj
    · by_cases c : j = nn
      · rw [c, upd_same]
        rcases hr with ⟨-, q⟩ | ⟨ri, q1, q2, -⟩
        · exact Or.inl (by rw [q]; decide)
        · exact Or.inr (by rw [q2]; exact isN_nI (by omega) (by omega))
      · rw [upd_ne _ _ c]; exact w4 j hj
  · obtain ⟨b0, b1, b2, b3, b4, b5⟩ := hA b hb
    unfold aF
    rw [e18, e19, e20, e21]
    exact ⟨b0, b1, b2, b3, fun q => by have := b4 q; omega, b5⟩
  · rw [r12, r13, r14, r15]
    by_cases c : j = nn
    · rw [c, upd_same, upd_same, upd_same, upd_same, va_up_self, va_up_self, va_up_self, va_up_self]
      refine ⟨rfl, hp, rfl, rfl, ?_⟩
      rcases hr with q | ⟨ri, q1, q2, q3⟩
      · exact Or.inl q
      · exact Or.inr ⟨ri, by omega, q2, by rw [va_up_ne _ _ (by omega)]; exact q3⟩
    · rw [upd_ne _ _ c, upd_ne _ _ c, upd_ne _ _ c, upd_ne _ _ c, va_up_ne _ _ c, va_up_ne _ _ c, va_up_ne _ _ c, va_up_ne _ _ c]
      obtain ⟨b0, b1, b2, b3, b4⟩ := h2 j (by omega)
      refine ⟨b0, b1, b2, b3, b4.elim Or.inl ?_⟩
      rintro ⟨ri, q1, q2, q3⟩
      exact Or.inr ⟨ri, by omega, q2, by rw [va_up_ne _ _ (by omega)]; exact q3⟩
  · rw [r16, e9]
    by_cases c : j = nn
    · rw [c, upd_same, va_up_self, va_up_self, va_up_self, va_up_self]
      have z : ∀ s, s < 4 → μ 9 (50 * s + nn) = 0 := fun s hs => h4.2.1 s nn hs (Nat.le_refl _) hn
      refine ⟨fun s hs _ => z s hs, by rw [z _ (hom_q0 h0' hp10).2, or_0], fun _ => rfl, fun t ht _ => ?_⟩
      rw [z _ (n3 t ht).2]
      split <;> rfl
    · obtain ⟨c1, c2, c3, c4⟩ := h3 j (by omega)
      rw [upd_ne _ _ c, va_up_ne _ _ c, va_up_ne _ _ c, va_up_ne _ _ c, va_up_ne _ _ c]
      refine ⟨fun s hs q => c1 s hs (fun ⟨d1, d2⟩ => q ⟨by rw [va_up_ne _ _ c]; exact d1, ?_⟩), c2, c3, c4⟩
      rw [va_up_ne _ _ c]
      exact d2
  · unfold q4; rw [e9]; exact ⟨h4.1, fun s j hs h1 h2 => h4.2.1 s j hs (by omega) h2, h4.2.2⟩
  all_goals exact e _ (by decide) (by decide) (by decide) (by decide) (by decide) (by decide) (by decide)
theorem mTo_RR {np nc nn : Nat} {χ nau : Nat → Nat} {nkd nna nth nwe nso : Nat → Int32} {fk fp fa : Nat → Nat} {ft : Nat → Int32} {κ : Nat → Nat → Nat → Int32} {ζ : Nat → Nat → Nat → Int64} {lI pI : Nat → List Nat} {dl : Nat → Nat} {δ : Nat → Nat → Int32} {μ : Nat → Nat → Int32} {N : Nat} (h : RR np nc nn χ nau nkd nna nth nwe nso fk fp fa ft κ ζ lI pI dl δ μ N) {p : Nat} (hp : p < np) (k a : Int32) : mTo μ (nI p) k a (-1) &&& (kBit (χ p) ^^^ (-1)) = cTo0 χ (κ (χ p)) np p k a &&& (kBit (χ p) ^^^ (-1)) ∧ ∀ ri, ri < nn → mTo μ (nI p) k a (nI ri) &&& (kBit (χ p) ^^^ (-1)) = (cTo0 χ (κ (χ p)) np p k a ||| kBit (χ (nau ri))) &&& (kBit (χ p) ^^^ (-1)) := by
  have hv := mSrv_RR h hp
  obtain ⟨h0, hW, hA, h2, h3, h4, hS, h6⟩ := h
  have n2 := h0.1.2
  have n5 := h0.2.2.2.2
  have hn : tn (μ 1 0) = np := by rw [h0.1.1, tn_nI (by omega)]
  have key : ∀ z, (mToR μ a np (if k = 2 then 0 else kHo χ (kFo (κ (χ p)) p 10) np &&& (kBit (χ p) ^^^ (-1))) ||| z) &&& (kBit (χ p) ^^^ (-1)) = (cTo0 χ (κ (χ p)) np p k a ||| z) &&& (kBit (χ p) ^^^ (-1)) := by
    intro z
    rw [mToR_ho (fun j hj => (h0.2.1 j hj).1) a np _ n2, cTo0]
    refine kHas_ext (fun q hq => ?_)
    by_cases c : k = 2
    · rw [if_pos c, if_pos c, kHas_andn _ _ hq, kHas_andn _ _ hq, kHas_or _ _ hq, kHas_or _ _ hq, kHas_or _ _ hq, kHas_0 hq, Bool.false_or]
    · rw [if_neg c, if_neg c, kHas_andn _ _ hq, kHas_andn _ _ hq, kHas_or _ _ hq, kHas_or _ _ hq, kHas_or _ _ hq, kHas_or _ _ hq, kHas_andn _ _ hq]
      cases kHas (kHo χ (kFo (κ (χ p)) p 10) np) q <;> cases kHas z q <;> cases kHas (kBit (χ p)) q <;> cases kHas (kHo χ a np) q <;> rfl
  constructor
  · rw [mTo, tn_nI (by omega), hn, hv, if_pos (show (-1 : Int32) < 0 by decide), key, or_0]
  · intro ri hr
    have i3 : ¬ nI ri < 0 := by
      rw [Int32.lt_iff_toInt_lt, nI_toInt (by omega), show (0 : Int32).toInt = 0 from rfl]
      omega
    have e12 : tn (μ 12 ri) = nau ri := by rw [(h2 ri hr).1, tn_nI (by have := (h2 ri hr).2.1; omega)]
    rw [mTo, tn_nI (by omega), hn, hv, if_neg i3, tn_nI (by omega), e12, mHb_q0 h0 (by have := (h2 ri hr).2.1; omega), key]
