/-! an act is done at a server: the whole relation -/
theorem dl_not {δ : Nat → Nat → Int32} {i a s b : Nat} (h : va_up δ i (upd (δ i) a 1) s b = 0) : δ s b = 0 ∧ ¬ (s = i ∧ b = a) := by
  by_cases c : s = i
  · subst c
    rw [va_up_self] at h
    by_cases d : b = a
    · rw [d, upd_same] at h; exact absurd h (by decide)
    · rw [upd_ne _ _ d] at h; exact ⟨h, fun q => d q.2⟩
  · rw [va_up_ne _ _ c] at h; exact ⟨h, fun q => c q.1⟩
theorem RR_core {np nc nn : Nat} {χ nau : Nat → Nat} {nkd nna nth nwe nso : Nat → Int32} {fk fp fa : Nat → Nat} {ft : Nat → Int32} {κ : Nat → Nat → Nat → Int32} {ζ : Nat → Nat → Nat → Int64} {lI pI : Nat → List Nat} {dl : Nat → Nat} {δ : Nat → Nat → Int32} {μ : Nat → Nat → Int32} {N : Nat} {i a : Nat} (h : RR np nc nn χ nau nkd nna nth nwe nso fk fp fa ft κ ζ lI pI dl δ μ N) (hi : i < 4) (ha : a < nc) (hd : δ i a = 0) : q0 np nc nn χ (mDo μ i a) ∧ mWF (mDo μ i a) ∧ (∀ b, b < nc → aF fk fp fa ft np nn (mDo μ i a) b) ∧ q2 np nn nau nkd nna nth (mDo μ i a) ∧ ∀ k, k < 4 → qS (va_up κ i (kLearn (κ i) (fk a) (fp a) (fa a) (ft a)) k) (va_up ζ i (zLearn (ζ i) (fk a) (fp a) (fa a)) k) (va_up δ i (upd (δ i) a 1) k) (va_up lI i (lI i ++ [a]) k) fk fp fa ft np nc (mDo μ i a) k := by
  obtain ⟨h0, hW, hA, h2, h3, h4, hS, h6⟩ := h
  have e : ∀ r, r ≠ 3 → r ≠ 4 → r ≠ 5 → r ≠ 6 → r ≠ 7 → r ≠ 8 → r ≠ 9 → r ≠ 10 → r ≠ 22 → r ≠ 23 → r ≠ 25 → mDo μ i a r = μ r := fun r a1 a2 a3 a4 a5 a6 a7 a8 a9 a10 a11 => mDo_k μ i a a1 a2 a3 a4 a5 a6 a7 a8 a9 a10 a11
  have e1 := e 1 (by decide) (by decide) (by decide) (by decide) (by decide) (by decide) (by decide) (by decide) (by decide) (by decide) (by decide)
  have e2 := e 2 (by decide) (by decide) (by decide) (by decide) (by decide) (by decide) (by decide) (by decide) (by decide) (by decide) (by decide)
  have e11 := e 11 (by decide) (by decide) (by decide) (by decide) (by decide) (by decide) (by decide) (by decide) (by decide) (by decide) (by decide)
  have e12 := e 12 (by decide) (by decide) (by decide) (by decide) (by decide) (by decide) (by decide) (by decide) (by decide) (by decide) (by decide)
  have e13 := e 13 (by decide) (by decide) (by decide) (by decide) (by decide) (by decide) (by decide) (by decide) (by decide) (by decide) (by decide)
  have e14 := e 14 (by decide) (by decide) (by decide) (by decide) (by decide) (by decide) (by decide) (by decide) (by decide) (by decide) (by decide)
  have e15 := e 15 (by decide) (by decide) (by decide) (by decide) (by decide) (by decide) (by decide) (by decide) (by decide) (by decide) (by decide)
  have e17 := e 17 (by decide) (by decide) (by decide) (by decide) (by decide) (by decide) (by decide) (by decide) (by decide) (by decide) (by decide)
  have e18 := e 18 (by decide) (by decide) (by decide) (by decide) (by decide) (by decide) (by decide) (by decide) (by decide) (by decide) (by decide)
  have e19 := e 19 (by decide) (by decide) (by decide) (by decide) (by decide) (by decide) (by decide) (by decide) (by decide) (by decide) (by decide)
  have e20 := e 20 (by decide) (by decide) (by decide) (by decide) (by decide) (by decide) (by decide) (by decide) (by decide) (by decide) (by decide)
  have e21 := e 21 (by decide) (by decide) (by decide) (by decide) (by decide) (by decide) (by decide) (by decide) (by decide) (by decide) (by decide)
  obtain ⟨⟨n1, n2⟩, n3, ⟨n4, n5⟩, n6, n7⟩ := id h0
  refine ⟨?_, mWF_rows hW e1 e2 e12 e15 e18 e19 e20, fun b hb => ?_, ?_, fun k hk => ?_⟩
  · unfold q0; rw [e1, e2, e11, e17]; exact h0
  · unfold aF; rw [e18, e19, e20, e21]; exact hA b hb
  · unfold q2; rw [e12, e13, e14, e15]; exact h2
  · by_cases c : k = i
    · subst c
      rw [va_up_self, va_up_self, va_up_self, va_up_self]
      refine qS_do (hS k hk) (hA a ha) (fun x hx => ?_) n2 n1 n7 ha n5 hd
      have hx2 : x < nc := ((hS k hk).2.2.2.1.2.2.2 x).mp hx |>.1
      obtain ⟨-, b1, b2, b3, -, -⟩ := hA x hx2
      exact ⟨b1, by omega, fun q => by have := b3 q; omega⟩
    · rw [va_up_ne _ _ c, va_up_ne _ _ c, va_up_ne _ _ c, va_up_ne _ _ c]
      exact qS_oth (hS k hk) (hA a ha) c n2 n1 n7 ha n5
theorem mDo_16 (μ : Nat → Nat → Int32) (i a : Nat) : mDo μ i a 16 = μ 16 := mDo_k μ i a (by decide) (by decide) (by decide) (by decide) (by decide) (by decide) (by decide) (by decide) (by decide) (by decide) (by decide)
theorem mDo_24 (μ : Nat → Nat → Int32) (i a : Nat) : mDo μ i a 24 = μ 24 := mDo_k μ i a (by decide) (by decide) (by decide) (by decide) (by decide) (by decide) (by decide) (by decide) (by decide) (by decide) (by decide)
theorem RR_do_n {np nc nn : Nat} {χ nau : Nat → Nat} {nkd nna nth nwe nso : Nat → Int32} {fk fp fa : Nat → Nat} {ft : Nat → Int32} {κ : Nat → Nat → Nat → Int32} {ζ : Nat → Nat → Nat → Int64} {lI pI : Nat → List Nat} {dl : Nat → Nat} {δ : Nat → Nat → Int32} {μ : Nat → Nat → Int32} {N : Nat} {i a : Nat} (h : RR np nc nn χ nau nkd nna nth nwe nso fk fp fa ft κ ζ lI pI dl δ μ N) (hi : i < 4) (ha : a < nc) (hd : δ i a = 0) (hc : ¬ ((fk a = 8 ∨ fk a = 9) ∧ qC χ nkd nth (fa a) i)) : RR np nc nn χ nau nkd nna nth nwe nso fk fp fa ft (va_up κ i (kLearn (κ i) (fk a) (fp a) (fa a) (ft a))) (va_up ζ i (zLearn (ζ i) (fk a) (fp a) (fa a))) (va_up lI i (lI i ++ [a])) pI dl (va_up δ i (upd (δ i) a 1)) (mDo μ i a) N := by
  obtain ⟨c0, c1, c2, c3, c4⟩ := RR_core h hi ha hd
  have e9 := mDo_n h hi ha hc (r := 9) (Or.inl rfl)
  have e23 := mDo_n h hi ha hc (r := 23) (Or.inr (Or.inl rfl))
  have e25 := mDo_n h hi ha hc (r := 25) (Or.inr (Or.inr rfl))
  obtain ⟨h0, hW, hA, h2, h3, h4, hS, h6⟩ := h
  refine ⟨c0, c1, c2, c3, ?_, ?_, c4, q6_dlt (q6_rows h6 e23 (mDo_24 μ i a) e25)⟩
  · unfold q3; rw [e9, mDo_16]; exact h3
  · refine ⟨fun s b hs hb h8 hz => ?_, ?_, h4.2.2⟩
    · rw [e9]; exact h4.1 s b hs hb h8 (dl_not hz).1
    · rw [e9]; exact h4.2.1
theorem RR_do_9 {np nc nn : Nat} {χ nau : Nat → Nat} {nkd nna nth nwe nso : Nat → Int32} {fk fp fa : Nat → Nat} {ft : Nat → Int32} {κ : Nat → Nat → Nat → Int32} {ζ : Nat → Nat → Nat → Int64} {lI pI : Nat → List Nat} {dl : Nat → Nat} {δ : Nat → Nat → Int32} {μ : Nat → Nat → Int32} {N : Nat} {i a t : Nat} (h : RR np nc nn χ nau nkd nna nth nwe nso fk fp fa ft κ ζ lI pI dl δ μ N) (hi : i < 4) (ha : a < nc) (hd : δ i a = 0) (h9 : fk a = 9) (hk : nkd (fa a) = 0) (ht : t < 10) (he : nth (fa a) = nI t) (hx : χ t = i) (hN : N < 1200) : RR np nc nn χ nau nkd nna nth nwe nso fk fp fa ft (va_up κ i (kLearn (κ i) (fk a) (fp a) (fa a) (ft a))) (va_up ζ i (zLearn (ζ i) (fk a) (fp a) (fa a))) (va_up lI i (lI i ++ [a])) (sPk pI a (nso (fa a)) 4) dl (va_up δ i (upd (δ i) a 1)) (mDo μ i a) (N + 1) := by
  obtain ⟨c0, c1, c2, c3, c4⟩ := RR_core h hi ha hd
  obtain ⟨M, m1, m2, m3, m4, m5⟩ := mDo_9 h hi ha h9 hk ht he hx
  obtain ⟨h0, hW, hA, h2, h3, h4, hS, h6⟩ := h
  have e9 : mDo μ i a 9 = μ 9 := by rw [m1, mSnd_k _ _ _ (by decide) (by decide), m2]
  refine ⟨c0, c1, c2, c3, ?_, ?_, c4, q6_dlt ?_⟩
  · unfold q3; rw [e9, mDo_16]; exact h3
  · refine ⟨fun s b hs hb h8 hz => ?_, ?_, h4.2.2⟩
    · rw [e9]; exact h4.1 s b hs hb h8 (dl_not hz).1
    · rw [e9]; exact h4.2.1
  · rw [m1]
    exact q6_snd _ (q6_rows h6 m3 m4 m5) ha h0.2.2.1.2 hN
theorem RR_do_8 {np nc nn : Nat} {χ nau : Nat → Nat} {nkd nna nth nwe nso : Nat → Int32} {fk fp fa : Nat → Nat} {ft : Nat → Int32} {κ : Nat → Nat → Nat → Int32} {ζ : Nat → Nat → Nat → Int64} {lI pI : Nat → List Nat} {dl : Nat → Nat} {δ : Nat → Nat → Int32} {μ : Nat → Nat → Int32} {N : Nat} {i a t : Nat} (h : RR np nc nn χ nau nkd nna nth nwe nso fk fp fa ft κ ζ lI pI dl δ μ N) (hi : i < 4) (ha : a < nc) (hd : δ i a = 0) (h8 : fk a = 8) (hk : nkd (fa a) = 0) (ht : t < 10) (he : nth (fa a) = nI t) (hx : χ t = i) (hN : N < 1200) : RR np nc nn χ nau nkd nna nth (va_up nwe (fa a) (rWe χ i (nau (fa a)) (nwe (fa a)) (rTo2 χ (κ i) t i (nau (fa a)) np (nwe (fa a))))) (va_up nso (fa a) (rSo χ i (nau (fa a)) (nso (fa a)) (rTo2 χ (κ i) t i (nau (fa a)) np (nwe (fa a))))) fk fp fa ft (va_up κ i (kLearn (κ i) (fk a) (fp a) (fa a) (ft a))) (va_up ζ i (zLearn (ζ i) (fk a) (fp a) (fa a))) (va_up lI i (lI i ++ [a])) (sPk pI a (rTo2 χ (κ i) t i (nau (fa a)) np (nwe (fa a))) 4) dl (va_up δ i (upd (δ i) a 1)) (mDo μ i a) (N + 1) := by
  obtain ⟨c0, c1, c2, c3, c4⟩ := RR_core h hi ha hd
  obtain ⟨M, m1, m2, m3, m4, m5⟩ := mDo_8 h hi ha hd h8 hk ht he hx
  obtain ⟨h0, hW, hA, h2, h3, h4, hS, h6⟩ := h
  obtain ⟨x, hxx⟩ : ∃ x : Int32, x = rTo2 χ (κ i) t i (nau (fa a)) np (nwe (fa a)) := ⟨_, rfl⟩
  rw [← hxx] at m1 m2 ⊢
  have e9 : mDo μ i a 9 = upd (μ 9) (50 * i + fa a) x := by rw [m1, mSnd_k _ _ _ (by decide) (by decide), m2]
  have hj : fa a < nn := (hA a ha).2.2.2.2.1 (by omega)
  have n7 := h0.2.2.2.2
  have hz : μ 9 (50 * i + fa a) = 0 := h4.1 i a hi ha h8 hd
  refine ⟨c0, c1, c2, c3, ?_, ?_, c4, q6_dlt ?_⟩
  · unfold q3
    rw [e9, mDo_16]
    intro j hjn
    obtain ⟨g1, g2, g3, g4⟩ := h3 j hjn
    have hau : nau j < 10 := by have := (h2 j hjn).2.1; have := h0.1.2; omega
    have hχ := fun k hk => (h0.2.1 k hk).2
    by_cases c : j = fa a
    · subst c
      rw [va_up_self, va_up_self]
      refine ⟨fun s hs hq => ?_, ?_, fun q => ?_, fun t' ht' he' => ?_⟩
      · have d : s ≠ i := fun q => hq ⟨hk, t, ht, he, by rw [q]; exact hx⟩
        rw [upd2o _ _ (by omega) (by omega) d]
        exact g1 s hs hq
      · rw [rWe]
        by_cases d : χ (nau (fa a)) = i
        · rw [if_pos d, d, upd_same, g2, d, hz, or_0]
        · rw [if_neg d, upd2o _ _ (by omega) (by omega) d]
          exact g2
      · exfalso
        rw [he] at q
        have h9 := congrArg Int32.toInt q
        rw [nI_toInt (by omega), show (-1 : Int32).toInt = -1 from by decide] at h9
        omega
      · have h9 := congrArg tn (he.symm.trans he')
        rw [tn_nI (by omega), tn_nI (by omega)] at h9
        subst h9
        rw [rSo]
        by_cases d : χ (nau (fa a)) = i
        · rw [if_pos d, if_pos (by rw [hx, d])]
          rw [g4 t ht he, if_pos (by rw [hx, d])]
        · rw [if_neg d, if_neg (by rw [hx]; exact fun q => d q.symm), hx, upd_same]
    · rw [va_up_ne _ _ c, va_up_ne _ _ c]
      have u : ∀ s, upd (μ 9) (50 * i + fa a) x (50 * s + j) = μ 9 (50 * s + j) := fun s => upd_ne _ _ (by omega)
      refine ⟨fun s hs hq => by rw [u]; exact g1 s hs hq, by rw [u]; exact g2, g3, fun t' ht' he' => by rw [u]; exact g4 t' ht' he'⟩
  · refine ⟨fun s b hs hb hb8 hz2 => ?_, fun s j hs h1 h2 => ?_, h4.2.2⟩
    · obtain ⟨y1, y2⟩ := dl_not hz2
      rw [e9]
      have hbj : fa b < nn := (hA b hb).2.2.2.2.1 (by omega)
      by_cases c : s = i ∧ fa b = fa a
      · exact absurd ⟨c.1, h4.2.2 b a hb ha hb8 h8 c.2⟩ y2
      · rw [upd_ne _ _ (by omega)]
        exact h4.1 s b hs hb hb8 y1
    · rw [e9, upd_ne _ _ (by omega)]
      exact h4.2.1 s j hs h1 h2
  · rw [m1]
    exact q6_snd _ (q6_rows h6 m3 m4 m5) ha h0.2.2.1.2 hN
