/-! p20: the invariant of the state -/
/-- deleted at home -/
def GN (μ : Nat → Nat → Int32) (n : Nat) : Prop := ¬ μ 8 (50 * tn (μ 2 (tn (μ 12 n))) + n) = 0
def Jh (μ : Nat → Nat → Int32) (nn nc : Nat) : Prop := μ 1 0 = nI 6 ∧ (∀ p, p < 6 → tn (μ 2 p) < 3) ∧ μ 17 0 = nI nc ∧ μ 11 0 = nI nn
def Ja (μ : Nat → Nat → Int32) (nn nc : Nat) : Prop := ∀ a, a < nc → tn (μ 18 a) < 11 ∧ tn (μ 19 a) < 6 ∧ (tn (μ 18 a) < 8 → tn (μ 20 a) < 6 ∧ tn (μ 19 a) ≠ tn (μ 20 a)) ∧ (8 ≤ tn (μ 18 a) → tn (μ 20 a) < nn)
def Jg (μ : Nat → Nat → Int32) (nc : Nat) : Prop := ∀ a, a < nc → tn (μ 18 a) = 9 → GN μ (tn (μ 20 a))
def Jz (μ : Nat → Nat → Int32) (nn : Nat) : Prop := ∀ s n, s < 4 → nn ≤ n → n < 50 → μ 8 (50 * s + n) = 0
def J3 (μ : Nat → Nat → Int32) : Prop := ∀ a, a < 600 → μ 22 (600 * 3 + a) = 0
def Jp (μ : Nat → Nat → Int32) (nc : Nat) : Prop := ∀ i, i < 4 → tn (μ 25 i) ≤ nc + (if i = 0 then 0 else cD μ 0 nc) + (if i = 1 then 0 else cD μ 1 nc) + (if i = 2 then 0 else cD μ 2 nc)
def J (μ : Nat → Nat → Int32) (nn nc : Nat) : Prop := Jh μ nn nc ∧ Ja μ nn nc ∧ Jg μ nc ∧ (∀ s, s < 4 → JF μ s) ∧ JM μ ∧ Jz μ nn ∧ J9 μ nn ∧ J16 μ nn ∧ J3 μ ∧ Jp μ nc
theorem Jp_le {μ : Nat → Nat → Int32} {nc : Nat} (h : Jp μ nc) (i : Nat) (hi : i < 4) : tn (μ 25 i) ≤ 4 * nc ∧ (i < 3 → tn (μ 25 i) ≤ 3 * nc) := by
  have h0 := cD_le μ 0 nc
  have h1 := cD_le μ 1 nc
  have h2 := cD_le μ 2 nc
  have h3 := h i hi
  rcases (show i = 0 ∨ i = 1 ∨ i = 2 ∨ i = 3 by omega) with rfl | rfl | rfl | rfl <;> simp at h3 <;> omega
theorem J_home {μ : Nat → Nat → Int32} {nn nc : Nat} (h : Jh μ nn nc) (h16 : J16 μ nn) {n : Nat} (hn : n < nn) : tn (μ 2 (tn (μ 12 n))) < 3 := h.2.1 _ (h16 n hn).1
theorem J_hh {μ : Nat → Nat → Int32} {nn nc : Nat} (h : Jh μ nn nc) (h16 : J16 μ nn) : ∀ n, n < nn → tn (μ 2 (tn (μ 12 n))) < 32 := fun _ hn => by have := J_home h h16 hn; omega
theorem GN_rows {μ μ' : Nat → Nat → Int32} (e2 : μ' 2 = μ 2) (e8 : μ' 8 = μ 8) (e12 : μ' 12 = μ 12) (n : Nat) : GN μ' n ↔ GN μ n := by
  unfold GN
  rw [e2, e8, e12]
/-- what an act that is done does to the marks at home -/
theorem GN_do {μ : Nat → Nat → Int32} {s a : Nat} (n : Nat) : (tn (μ 18 a) = 9 → n = tn (μ 20 a) → s = tn (μ 2 (tn (μ 12 n))) → GN μ n) → tn (μ 20 a) < 50 → n < 50 → (GN (mDo μ s a) n ↔ GN μ n) := by
  intro h hq hn
  unfold GN
  rw [do_k μ s a (k := 2) (by decide), do_k μ s a (k := 12) (by decide)]
  by_cases c : tn (μ 18 a) < 8
  · rw [do_lo c (Or.inr (Or.inl rfl))]
  · by_cases c8 : tn (μ 18 a) = 8
    · rw [(do_8 (s := s) c8).2.1]
    · by_cases c9 : tn (μ 18 a) = 9
      · rw [(do_9 (s := s) c9).2.1]
        by_cases e : 50 * tn (μ 2 (tn (μ 12 n))) + n = 50 * s + tn (μ 20 a)
        · have e1 : n = tn (μ 20 a) := by omega
          have e2 : s = tn (μ 2 (tn (μ 12 n))) := by omega
          rw [e, upd_same, ← e]
          exact ⟨fun _ => h c9 e1 e2, fun _ => by decide⟩
        · rw [upd_ne _ _ e]
      · rw [(do_10 (s := s) (show 9 < tn (μ 18 a) by omega)).2.1]
theorem GN_set {μ : Nat → Nat → Int32} {s a : Nat} (c9 : tn (μ 18 a) = 9) (hs : s = tn (μ 2 (tn (μ 12 (tn (μ 20 a)))))) : GN (mDo μ s a) (tn (μ 20 a)) := by
  unfold GN
  rw [do_k μ s a (k := 2) (by decide), do_k μ s a (k := 12) (by decide), (do_9 (s := s) c9).2.1, ← hs, upd_same]
  decide
theorem Jz_do {μ : Nat → Nat → Int32} {s a nn : Nat} (h : Jz μ nn) (hnn : nn ≤ 50) (hq : 8 ≤ tn (μ 18 a) → tn (μ 20 a) < nn) : Jz (mDo μ s a) nn := by
  intro i n hi hn hn2
  by_cases c : tn (μ 18 a) < 8
  · rw [do_lo c (Or.inr (Or.inl rfl))]; exact h i n hi hn hn2
  · have h1 := hq (by omega)
    by_cases c8 : tn (μ 18 a) = 8
    · rw [(do_8 (s := s) c8).2.1]; exact h i n hi hn hn2
    · by_cases c9 : tn (μ 18 a) = 9
      · rw [(do_9 (s := s) c9).2.1, upd_ne _ _ (by omega)]; exact h i n hi hn hn2
      · rw [(do_10 (s := s) (show 9 < tn (μ 18 a) by omega)).2.1]; exact h i n hi hn hn2
theorem Jp_do {μ : Nat → Nat → Int32} {s a nn nc : Nat} (h : Jp μ nc) (h9 : J9 μ nn) (hq : 8 ≤ tn (μ 18 a) → tn (μ 20 a) < nn) (hs : s < 3) (hh : ∀ n, n < nn → tn (μ 2 (tn (μ 12 n))) < 32) (ha : a < nc) (hnc : nc ≤ 600) (hz : μ 22 (600 * s + a) = 0) (hL : mLast μ 1199) : Jp (mDo μ s a) nc := by
  obtain ⟨M, sv, e, hsv, ⟨-, -, e25⟩, -, -⟩ := DO_form h9 hq (show s < 4 by omega) hh
  have hd := do_22 μ s a
  have k0 := cD_do hd hz nc ha
  intro i hi
  have h1 := h i hi
  have hi25 : tn (mDo μ s a 25 i) = tn (μ 25 i) + (if kHas sv i = true then 1 else 0) := by
    rw [e, snd_tn M _ sv hi (by rw [e25]; exact hL i hi) (by omega), e25]
  rw [hi25]
  have o : ∀ j, j ≠ s → cD (mDo μ s a) j nc = cD μ j nc := fun j hj => cD_oth hd hj (by omega) hnc
  have b : (if kHas sv i = true then 1 else 0) ≤ (if i = s then 0 else 1) := by
    by_cases c : i = s
    · rw [c, hsv]; simp
    · rw [if_neg c]; split <;> omega
  rcases (show s = 0 ∨ s = 1 ∨ s = 2 by omega) with rfl | rfl | rfl
  · rw [k0, o 1 (by omega), o 2 (by omega)]
    by_cases c : i = 0
    · rw [if_pos c] at b h1 ⊢; omega
    · rw [if_neg c] at b h1 ⊢; omega
  · rw [k0, o 0 (by omega), o 2 (by omega)]
    by_cases c : i = 1
    · rw [if_pos c] at b h1 ⊢; omega
    · rw [if_neg c] at b h1 ⊢; omega
  · rw [k0, o 0 (by omega), o 1 (by omega)]
    by_cases c : i = 2
    · rw [if_pos c] at b h1 ⊢; omega
    · rw [if_neg c] at b h1 ⊢; omega
/-- an act is done at s: all that holds goes on -/
theorem J_do {μ : Nat → Nat → Int32} {s a nn nc : Nat} (hh : Jh μ nn nc) (hA : Ja μ nn nc) (hg : ∀ b, b < nc → b ≠ a → tn (μ 18 b) = 9 → GN μ (tn (μ 20 b))) (hga : tn (μ 18 a) = 9 → s = tn (μ 2 (tn (μ 12 (tn (μ 20 a))))) ∨ GN μ (tn (μ 20 a))) (hF : ∀ s, s < 4 → JF μ s) (hM : JM μ) (hZ : Jz μ nn) (h9 : J9 μ nn) (h16 : J16 μ nn) (h3 : J3 μ) (hp : Jp μ nc) (hs : s < 3) (ha : a < nc) (hnc : nc ≤ 600) (hnn : nn ≤ 50) (hz : μ 22 (600 * s + a) = 0) (hL : mLast μ 1199) : J (mDo μ s a) nn nc := by
  obtain ⟨a1, a2, a3, a4⟩ := hA a ha
  have hH := J_hh hh h16
  have hq50 : tn (μ 20 a) < 50 := (Nat.lt_or_ge (tn (μ 18 a)) 8).elim (fun c => by have := (a3 c).1; omega) (fun c => by have := a4 c; omega)
  have r := fun (k : Nat) (h : k = 0 ∨ k = 1 ∨ k = 2 ∨ k = 11 ∨ k = 12 ∨ k = 13 ∨ k = 14 ∨ k = 15 ∨ k = 16 ∨ k = 17 ∨ k = 18 ∨ k = 19 ∨ k = 20 ∨ k = 21 ∨ k = 24) => do_k μ s a h
  have up : ∀ n, n < 50 → GN μ n → GN (mDo μ s a) n := fun n hn z => (GN_do n (fun _ _ _ => z) hq50 hn).mpr z
  refine ⟨⟨?_, ?_, ?_, ?_⟩, ?_, ?_, ?_, JM_do hM (fun c => by have := a4 c; omega), Jz_do hZ hnn a4, J9_do h9 hnn a4 (by omega) hH, ?_, ?_, Jp_do hp h9 a4 hs hH ha hnc hz hL⟩
  · rw [r 1 (by decide)]; exact hh.1
  · rw [r 2 (by decide)]; exact hh.2.1
  · rw [r 17 (by decide)]; exact hh.2.2.1
  · rw [r 11 (by decide)]; exact hh.2.2.2
  · intro b hb
    rw [r 18 (by decide), r 19 (by decide), r 20 (by decide)]
    exact hA b hb
  · intro b hb
    rw [r 18 (by decide), r 20 (by decide)]
    intro c9
    obtain ⟨b1, b2, b3, b4⟩ := hA b hb
    have := b4 (by omega)
    by_cases e : b = a
    · subst e
      rcases hga c9 with z | z
      · exact GN_set c9 z
      · exact up _ hq50 z
    · exact up _ (by omega) (hg b hb e c9)
  · intro i hi
    by_cases c : 8 ≤ tn (μ 18 a)
    · exact JF_rows (hF i hi) (do_hi c (Or.inl rfl)) (do_hi c (Or.inr (Or.inl rfl))) (do_hi c (Or.inr (Or.inr (Or.inl rfl))))
    · obtain ⟨b1, b2⟩ := a3 (by omega)
      have n6 : tn (μ 1 0) ≤ 10 := by rw [hh.1, tn_nI (by omega)]; omega
      have hm : ∀ j, j < 4 → JF (mW μ s a) j := fun j hj => JF_rows (hF j hj) (va_up_ne _ _ (by decide)) (va_up_ne _ _ (by decide)) (va_up_ne _ _ (by decide))
      have n6' : tn (mW μ s a 1 0) ≤ 10 := n6
      rw [mDo, if_neg c]
      show JF (mDo1 (mW μ s a) s (tn (μ 18 a)) (tn (μ 19 a)) (tn (μ 20 a)) (μ 21 a)) i
      by_cases d : i = s
      · rw [d]; exact JF_do (hm s (by omega)) (by omega) (by omega) b2 n6'
      · exact JF_s4 (hm i hi) (s4_do d (by omega) (by omega) n6')
  · intro n hn
    rw [r 12 (by decide), r 16 (by decide), r 2 (by decide)]
    exact h16 n hn
  · intro b hb
    rw [do_22, upd_ne _ _ (by omega)]
    exact h3 b hb
