/-! p20: deliveries and posts -/
/-- what waits at s is not sent on from there -/
def qu (μ : Nat → Nat → Int32) (s : Nat) : Prop := ∀ j, tn (μ 24 s) ≤ j → j < tn (μ 25 s) → ¬ tr μ s (tn (μ 23 (1200 * s + j)))
def dN (μ : Nat → Nat → Int32) (s : Nat) : Nat → Nat → Int32 := va_up (va_up μ 0 (fun _ => 0)) 24 (upd (μ 24) s (nI (tn (μ 24 s) + 1)))
theorem dlv_eq (μ : Nat → Nat → Int32) {s : Nat} (hs : s < 4) : mDlv μ (nI s) = if tn (μ 24 s) = tn (μ 25 s) then va_up μ 0 (fun _ => 0) else if μ 22 (600 * s + mDlvA μ s) = 0 then mDo (dN μ s) s (mDlvA μ s) else dN μ s := by
  have i3 : mIn (nI s) 0 3 = true := mIn_nI (n := 4) (by omega) hs
  rw [mDlv, i3, if_neg (by decide), tn_nI (by omega)]
  rfl
theorem dlvR_eq (μ : Nat → Nat → Int32) {s : Nat} (hs : s < 4) : mDlvR μ (nI s) = if tn (μ 24 s) = tn (μ 25 s) then -1 else μ 18 (mDlvA μ s) := by
  have i3 : mIn (nI s) 0 3 = true := mIn_nI (n := 4) (by omega) hs
  rw [mDlvR, i3, if_neg (by decide), tn_nI (by omega)]
theorem dN_k (μ : Nat → Nat → Int32) (s : Nat) {r : Nat} (h : r ≠ 0) (h2 : r ≠ 24) : dN μ s r = μ r := by rw [dN, va_up_ne _ _ h2, va_up_ne _ _ h]
theorem dN_24 (μ : Nat → Nat → Int32) (s : Nat) : dN μ s 24 = upd (μ 24) s (nI (tn (μ 24 s) + 1)) := va_up_self _ _ _
theorem tq_one {μ : Nat → Nat → Int32} {s i n : Nat} (h : tq μ s n) (h2 : tq μ i n) : s = i := by
  unfold tq at h h2
  have a1 : tn (μ 2 (tn (μ 12 (tn (μ 15 n))))) = s := Classical.byContradiction (fun z => h (Or.inr (Or.inr z)))
  have a2 : tn (μ 2 (tn (μ 12 (tn (μ 15 n))))) = i := Classical.byContradiction (fun z => h2 (Or.inr (Or.inr z)))
  rw [← a1, a2]
theorem J_dlv {μ : Nat → Nat → Int32} {nn nc s : Nat} (h : J μ nn nc) (hs : s < 3) (hne : ¬ tn (μ 24 s) = tn (μ 25 s)) (ha : mDlvA μ s < nc) (hnc : nc < 512) (hnn : nn ≤ 50) (hL : mLast μ 1199) (h24 : isN (μ 24 s) 1201) (hdl : tn (μ 24 s) ≤ tn (μ 25 s)) : J (mDlv μ (nI s)) nn nc ∧ (tn (mDlv μ (nI s) 24 s) = tn (μ 24 s) + 1 ∧ ∀ i, i ≠ s → mDlv μ (nI s) 24 i = μ 24 i) ∧ mDlv μ (nI s) 25 s = μ 25 s ∧ (cD μ s nc ≤ cD (mDlv μ (nI s)) s nc ∧ cD (mDlv μ (nI s)) s nc ≤ cD μ s nc + 1) ∧ (∀ n, n < 50 → (GN (mDlv μ (nI s)) n ↔ GN μ n)) ∧ (∀ i, i < 4 → qu μ i → qu (mDlv μ (nI s)) i) ∧ (qu μ s → ∀ i, i < 4 → mDlv μ (nI s) 25 i = μ 25 i) := by
  rw [dlv_eq μ (show s < 4 by omega), if_neg hne]
  have hJ : J (dN μ s) nn nc := J_row h (fun r h0 _ _ h24 => dN_k μ s h0 h24)
  have e24 : tn (dN μ s 24 s) = tn (μ 24 s) + 1 := by rw [dN_24, upd_same, tn_nI (by have := h24.2; omega)]
  have o24 : ∀ i, i ≠ s → dN μ s 24 i = μ 24 i := fun i hi => by rw [dN_24, upd_ne _ _ hi]
  have k := fun (r : Nat) (h0 : r ≠ 0) (h2 : r ≠ 24) => dN_k μ s h0 h2
  have gn : ∀ n, GN (dN μ s) n ↔ GN μ n := fun n => GN_rows (k 2 (by decide) (by decide)) (k 8 (by decide) (by decide)) (k 12 (by decide) (by decide)) n
  have trr : ∀ i b, tr (dN μ s) i b = tr μ i b := fun i b => tr_rows (k 2 (by decide) (by decide)) (k 12 (by decide) (by decide)) (k 13 (by decide) (by decide)) (k 15 (by decide) (by decide)) (k 18 (by decide) (by decide)) (k 20 (by decide) (by decide)) i b
  have q1 : ∀ i, qu μ i → qu (dN μ s) i := fun i hq j h1 h2 => by
    rw [k 25 (by decide) (by decide)] at h2
    rw [k 23 (by decide) (by decide), trr]
    by_cases c : i = s
    · subst c
      rw [e24] at h1
      exact hq j (by omega) h2
    · rw [o24 i c] at h1
      exact hq j h1 h2
  by_cases hz : μ 22 (600 * s + mDlvA μ s) = 0
  · rw [if_pos hz]
    obtain ⟨hh, hA, hg, hF, hM, hZ, h9, h16, h3, hp⟩ := hJ
    obtain ⟨a, ea⟩ : ∃ a, a = mDlvA μ s := ⟨_, rfl⟩
    rw [← ea] at hz ha ⊢
    have hz2 : dN μ s 22 (600 * s + a) = 0 := by rw [k 22 (by decide) (by decide)]; exact hz
    have hL2 : mLast (dN μ s) 1199 := fun j hj => by rw [k 25 (by decide) (by decide)]; exact hL j hj
    obtain ⟨-, a2, a3, a4⟩ := hA a ha
    have hq50 : tn (dN μ s 20 a) < 50 := (Nat.lt_or_ge (tn (dN μ s 18 a)) 8).elim (fun c => by have := (a3 c).1; omega) (fun c => by have := a4 c; omega)
    have hH := J_hh hh h16
    obtain ⟨M, sv, e, hsv, ⟨e23, -, e25⟩, hsv0, -⟩ := DO_form h9 a4 (show s < 4 by omega) hH
    have d25 : ∀ i, i < 4 → mDo (dN μ s) s a 25 i = if kHas sv i = true then μ 25 i + 1 else μ 25 i := fun i hi => by
      rw [e, snd_25, e25, k 25 (by decide) (by decide)]
      by_cases c : kHas sv i = true
      · rw [if_pos ⟨hi, c⟩, if_pos c]
      · rw [if_neg (fun z => c z.2), if_neg c]
    have d23 : ∀ i j, i < 4 → j < 1200 → mDo (dN μ s) s a 23 (1200 * i + j) = if i < 4 ∧ kHas sv i = true ∧ j = tn (μ 25 i) then nI a else μ 23 (1200 * i + j) := fun i j hi hj => by
      rw [e, snd_23 M _ sv (fun i hi => by rw [e25]; have := (hL2 i hi).2; omega) 4 (by omega) i j hi hj, e25, e23, k 25 (by decide) (by decide), k 23 (by decide) (by decide)]
    refine ⟨J_do hh hA (fun b hb _ c => hg b hb c) (fun c => Or.inr (hg a ha c)) hF hM hZ h9 h16 h3 hp hs ha (by omega) hnn hz2 hL2, ⟨?_, fun i hi => ?_⟩, ?_, ?_, fun n hn => ?_, fun i hi hq => ?_, fun hq i hi => ?_⟩
    · rw [do_k _ _ _ (k := 24) (by decide)]; exact e24
    · rw [do_k _ _ _ (k := 24) (by decide)]; exact o24 i hi
    · rw [d25 s (by omega), hsv, if_neg (by decide)]
    · rw [cD_do (do_22 _ _ _) hz2 nc ha, cD_row (k 22 (by decide) (by decide))]
      omega
    · rw [GN_do n (fun c e1 _ => by rw [e1]; exact hg a ha c) hq50 hn]
      exact gn n
    · intro j h1 h2
      have hq2 := q1 i hq
      rw [do_k _ _ _ (k := 24) (by decide)] at h1
      have hb := hL i hi
      rw [tr_rows (do_k _ _ _ (k := 2) (by decide)) (do_k _ _ _ (k := 12) (by decide)) (do_k _ _ _ (k := 13) (by decide)) (do_k _ _ _ (k := 15) (by decide)) (do_k _ _ _ (k := 18) (by decide)) (do_k _ _ _ (k := 20) (by decide))]
      have h2' : j < tn (μ 25 i) + 1 := by
        rw [d25 i hi] at h2
        by_cases c : kHas sv i = true
        · rw [if_pos c, tn_1 hb (by omega)] at h2; exact h2
        · rw [if_neg c] at h2; omega
      have hb2 := hb.2
      rw [d23 i j hi (by omega)]
      by_cases c : kHas sv i = true ∧ j = tn (μ 25 i)
      · rw [if_pos ⟨hi, c⟩, tn_nI (by omega), trr]
        intro t1
        have hne2 : i ≠ s := fun z => by rw [z, hsv] at c; exact absurd c.1 (by decide)
        have t2 : tr (dN μ s) s a := Classical.byContradiction (fun z => by
          have z2 := c.1
          rw [hsv0 z, kHas_0 (by omega)] at z2
          exact absurd z2 (by decide))
        rw [trr] at t2
        exact hne2 (tq_one t1.2 t2.2)
      · rw [if_neg (fun z => c z.2)]
        have h3' : j < tn (μ 25 i) := by
          by_cases d : kHas sv i = true
          · have : ¬ j = tn (μ 25 i) := fun z => c ⟨d, z⟩
            omega
          · rw [d25 i hi, if_neg d] at h2; exact h2
        have := hq2 j h1 (by rw [k 25 (by decide) (by decide)]; exact h3')
        rw [k 23 (by decide) (by decide)] at this
        exact this
    · have e0 : ¬ tr (dN μ s) s a := by
        rw [trr, ea, mDlvA]
        exact hq (tn (μ 24 s)) (Nat.le_refl _) (by omega)
      rw [d25 i hi, hsv0 e0, kHas_0 (by omega), if_neg (by decide)]
  · rw [if_neg hz]
    refine ⟨hJ, ⟨e24, o24⟩, ?_, ?_, fun n _ => gn n, fun i _ hq => q1 i hq, fun _ i _ => ?_⟩
    · rw [k 25 (by decide) (by decide)]
    · rw [cD_row (k 22 (by decide) (by decide))]; omega
    · rw [k 25 (by decide) (by decide)]
/-- a new post, not yet told -/
theorem J_pos0 {μ : Nat → Nat → Int32} {nn nc p : Nat} {k a r : Int32} (h : J μ nn nc) (hp : p < 6) (hnn : nn < 50) (hr : ∀ n, n < nn → μ 15 n < 0 ∨ ¬ tn (μ 15 n) = nn) (h90 : ∀ s, s < 4 → μ 9 (50 * s + nn) = 0) : J (mPos0 μ (nI p) k a r) (nn + 1) nc := by
  obtain ⟨hh, hA, hg, hF, hM, hZ, h9, h16, h3, hpp⟩ := h
  have n0 : tn (μ 11 0) = nn := by rw [hh.2.2.2, tn_nI (by omega)]
  have p0 : tn (nI p) = p := tn_nI (by omega)
  have e12 : mPos0 μ (nI p) k a r 12 = upd (μ 12) nn (nI p) := by
    show upd (μ 12) (tn (μ 11 0)) (nI (tn (nI p))) = _
    rw [n0, p0]
  have e15 : mPos0 μ (nI p) k a r 15 = upd (μ 15) nn r := by
    show upd (μ 15) (tn (μ 11 0)) r = _
    rw [n0]
  have e13 : mPos0 μ (nI p) k a r 13 = upd (μ 13) nn k := by
    show upd (μ 13) (tn (μ 11 0)) k = _
    rw [n0]
  have e16 : mPos0 μ (nI p) k a r 16 = upd (μ 16) nn (mTo μ (nI p) k a r &&& (kBit (tn (μ 2 p)) ^^^ (-1))) := by
    show upd (μ 16) (tn (μ 11 0)) (mTo μ (nI p) k a r &&& (mHb μ (tn (nI p)) ^^^ (-1))) = _
    rw [n0, p0]
    rfl
  have e2 : mPos0 μ (nI p) k a r 2 = μ 2 := rfl
  have e9 : mPos0 μ (nI p) k a r 9 = μ 9 := rfl
  have hp3 := hh.2.1 p hp
  have tqe : ∀ s n, n < nn → (tq (mPos0 μ (nI p) k a r) s n ↔ tq μ s n) := fun s n hn => by
    unfold tq
    rw [e2, e12, e13, e15, upd_ne _ _ (show n ≠ nn by omega), upd_ne _ _ (show n ≠ nn by omega)]
    rcases hr n hn with z | z
    · exact ⟨fun y => absurd (Or.inr (Or.inl z)) y, fun y => absurd (Or.inr (Or.inl z)) y⟩
    · rw [upd_ne _ _ z]
  have gne : ∀ n, n < nn → (GN (mPos0 μ (nI p) k a r) n ↔ GN μ n) := fun n hn => by
    unfold GN
    rw [e2, e12, upd_ne _ _ (show n ≠ nn by omega)]
    exact Iff.rfl
  refine ⟨⟨hh.1, hh.2.1, hh.2.2.1, ?_⟩, fun b hb => ?_, fun b hb c => ?_, fun s hs => JF_rows (hF s hs) rfl rfl rfl, JM_rows hM rfl rfl, fun s n hs hn => hZ s n hs (by omega), fun n s hn hs => ?_, fun n hn => ?_, h3, fun i hi => by rw [cD_row (μ := μ) (μ' := mPos0 μ (nI p) k a r) rfl, cD_row (μ := μ) (μ' := mPos0 μ (nI p) k a r) rfl, cD_row (μ := μ) (μ' := mPos0 μ (nI p) k a r) rfl]; exact hpp i hi⟩
  · show nI (tn (μ 11 0) + 1) = _
    rw [n0]
  · obtain ⟨b1, b2, b3, b4⟩ := hA b hb
    exact ⟨b1, b2, b3, fun c => by have := b4 c; show tn (μ 20 b) < nn + 1; omega⟩
  · obtain ⟨b1, b2, b3, b4⟩ := hA b hb
    have c9 : tn (μ 18 b) = 9 := c
    exact (gne (tn (μ 20 b)) (b4 (by omega))).mpr (hg b hb c9)
  · rw [e9, e2, e12]
    by_cases c : n = nn
    · subst c
      rw [h90 s hs, kHas_0 (by omega), upd_same, p0, kHas_0 (by omega)]
      exact ⟨rfl, rfl, fun _ => rfl⟩
    · rw [upd_ne _ _ c, tqe s n (by omega)]
      exact h9 n s (by omega) hs
  · rw [e12, e16, e2]
    by_cases c : n = nn
    · subst c
      rw [upd_same, upd_same, p0, kHas_andn _ _ (by omega), kHas_bit (by omega) (by omega)]
      exact ⟨hp, by simp⟩
    · rw [upd_ne _ _ c, upd_ne _ _ c]
      exact h16 n (by omega)
theorem pos0_GN {μ : Nat → Nat → Int32} {nn nc p : Nat} {k a r : Int32} (h : J μ nn nc) (hp : p < 6) (hnn : nn < 50) (hw : ∀ j, j < 50 → tn (μ 2 (tn (μ 12 j))) < 4) {n : Nat} (hn : n < 50) : GN (mPos0 μ (nI p) k a r) n ↔ GN μ n := by
  obtain ⟨hh, hA, hg, hF, hM, hZ, h9, h16, h3, hpp⟩ := h
  have n0 : tn (μ 11 0) = nn := by rw [hh.2.2.2, tn_nI (by omega)]
  have p0 : tn (nI p) = p := tn_nI (by omega)
  have hp3 := hh.2.1 p hp
  unfold GN
  show ¬ μ 8 (50 * tn (μ 2 (tn (upd (μ 12) (tn (μ 11 0)) (nI (tn (nI p))) n))) + n) = 0 ↔ _
  rw [n0, p0]
  by_cases c : n = nn
  · subst c
    rw [upd_same, p0, hZ _ n (by omega) (Nat.le_refl _) hn, hZ _ n (hw n hn) (Nat.le_refl _) hn]
  · rw [upd_ne _ _ c]
