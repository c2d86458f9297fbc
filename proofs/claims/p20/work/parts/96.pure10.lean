/-! p20: for the law's other cases -/
theorem nI_nm1 {n : Nat} (h : n < 2 ^ 31) : ¬ nI n = (-1) := fun z => by
  have h9 := congrArg Int32.toInt z
  rw [nI_toInt h, show (-1 : Int32).toInt = -1 from by decide] at h9
  omega
theorem pT_0 {μ : Nat → Nat → Int32} {nn p v : Nat} {r : Int32} (h1 : μ 1 0 = nI 6) (h11 : μ 11 0 = nI nn) (hn : nn < 20) (hp : p < 6) (hv : v < 960) (hr : r = -1 ∨ ∃ i, i < nn ∧ r = nI i ∧ mSeen μ p i = true) : mPosT μ (nI p) (nI (v % 3)) (nI (v / 15)) r = 0 ∧ pG 6 (nI (v % 3)) (nI (v / 15)) := by
  have i1 : mIn (nI p) 0 (μ 1 0 - 1) = true := by rw [h1]; exact mIn_nI (by omega) hp
  have i2 : mIn (nI (v % 3)) 0 2 = true := mIn_nI (n := 3) (by omega) (by omega)
  have i3 : mIn (nI (v / 15)) 0 (((1 : Int32) <<< (nI 6 &&& 31)) - 1) = true := by
    rw [show (((1 : Int32) <<< (nI 6 &&& 31)) - 1) = nI 64 - 1 from by decide]
    exact mIn_nI (by omega) (by omega)
  constructor
  · have c1 : ¬ (mIn (nI p) 0 (μ 1 0 - 1) = false ∨ (¬ r = -1 ∧ mIn r 0 (μ 11 0 - 1) = false)) := fun z => by
      rcases z with z | ⟨z1, z2⟩
      · rw [i1] at z; cases z
      · rcases hr with hr | ⟨i, hi, hr, -⟩
        · exact z1 hr
        · rw [hr, h11, mIn_nI (by omega) hi] at z2; cases z2
    have c2 : ¬ (mIn (nI (v % 3)) 0 2 = false ∨ mIn (nI (v / 15)) 0 (((1 : Int32) <<< (μ 1 0 &&& 31)) - 1) = false) := fun z => by
      rcases z with z | z
      · rw [i2] at z; cases z
      · rw [h1, i3] at z; cases z
    have c3 : ¬ (tn (μ 11 0) = 50 ∨ (¬ r < 0 ∧ mSeen μ (tn (nI p)) (tn r) = false)) := fun z => by
      rcases z with z | ⟨z1, z2⟩
      · rw [h11, tn_nI (by omega)] at z; omega
      · rcases hr with hr | ⟨i, hi, hr, hs⟩
        · exact z1 (by rw [hr]; decide)
        · rw [hr, tn_nI (by omega), tn_nI (by omega), hs] at z2; cases z2
    rw [mPosT, if_neg c1, if_neg c2, if_neg c3]
  · refine ⟨nI_pos (by omega), fun z => ?_, nI_pos (by omega), ?_⟩
    · have := (nI_ltI (a := 2) (b := v % 3) (by omega) (by omega)).mp z
      omega
    · exact (named_np (np := 6) (by omega) (nI_pos (by omega))).mpr i3
theorem LA3_pos {hf af gf : Nat → Int32} {μ μ' : Nat → Nat → Int32} {nn p : Nat} (h : LA3 hf af gf μ nn) (hp : p < 10) (s1 : μ' 2 = μ 2) (s2 : μ' 12 = upd (μ 12) nn (nI p)) (s3 : ∀ n, n < 50 → (GN μ' n ↔ GN μ n)) : LA3 hf (upd af nn (nI p)) gf μ' (nn + 1) := by
  obtain ⟨h1, h2, h3⟩ := h
  refine ⟨fun j hj => by rw [s1]; exact h1 j hj, fun j hj => ?_, fun j hj => ?_⟩
  · rw [s2]
    by_cases c : j = nn
    · rw [c, upd_same, upd_same, tn_nI (by omega)]
    · rw [upd_ne _ _ c, upd_ne _ _ c]; exact h2 j (by omega)
  · rw [h3 j hj, s3 j (by omega)]
theorem LA3_del {hf af gf : Nat → Int32} {μ μ' : Nat → Nat → Int32} {nn n : Nat} (h : LA3 hf af gf μ nn) (s1 : μ' 2 = μ 2) (s2 : μ' 12 = μ 12) (s3 : ∀ j, j < 50 → (GN μ' j ↔ (j = n ∨ GN μ j))) : LA3 hf af (upd gf n (nI 1)) μ' nn := by
  obtain ⟨h1, h2, h3⟩ := h
  refine ⟨fun j hj => by rw [s1]; exact h1 j hj, fun j hj => by rw [s2]; exact h2 j hj, fun j hj => ?_⟩
  rw [s3 j (by omega)]
  by_cases c : j = n
  · subst c
    rw [upd_same]
    exact ⟨fun z => absurd z (by decide), fun z => absurd (Or.inl rfl) z⟩
  · rw [upd_ne _ _ c, h3 j hj]
    exact ⟨fun z y => y.elim c z, fun z y => z (Or.inr y)⟩
theorem dlvR_n {cy : Nat → ClassId} {e0 vo nn nc s : Nat} {μ : Nat → Nat → Int32} {w : va_W} (h : KK cy e0 vo μ nn nc w) (hn : nn ≤ 20) (hc : nc ≤ 60) (hs : s < 3) (hne : ¬ tn (μ 24 s) = tn (μ 25 s)) : ∃ kd, kd ≤ 10 ∧ mDlvR μ (nI s) = nI kd := by
  obtain ⟨r1, r2, r3, r4, r5, r6, r7, r8⟩ := KK_ref h (by omega) (by omega)
  have ha := r5 s (by omega) hne
  have hk := (r1.2.2.2.2 (mDlvA μ s) (by omega)).1
  refine ⟨tn (μ 18 (mDlvA μ s)), by have := hk.2; omega, ?_⟩
  rw [dlvR_eq μ (by omega), if_neg hne]
  exact hk.1
theorem dlv_23 {cy : Nat → ClassId} {e0 vo nn nc s : Nat} {μ : Nat → Nat → Int32} {w : va_W} (h : KK cy e0 vo μ nn nc w) (hn : nn ≤ 20) (hc : nc ≤ 60) (hs : s < 3) (hne : ¬ tn (μ 24 s) = tn (μ 25 s)) : mDlv μ (nI s) 18 = μ 18 ∧ ∀ j, j < 1200 → mDlv μ (nI s) 23 (1200 * s + j) = μ 23 (1200 * s + j) := by
  obtain ⟨r1, r2, r3, r4, r5, r6, r7, r8⟩ := KK_ref h (by omega) (by omega)
  have ha := r5 s (by omega) hne
  rw [dlv_eq μ (show s < 4 by omega), if_neg hne]
  have hJ : J (dN μ s) nn nc := J_row h.2 (fun r h0 _ _ h24 => dN_k μ s h0 h24)
  by_cases hz : μ 22 (600 * s + mDlvA μ s) = 0
  · rw [if_pos hz]
    obtain ⟨hh, hA, hg, hF, hM, hZ, h9, h16, h3, hp⟩ := hJ
    obtain ⟨-, a2, a3, a4⟩ := hA _ ha
    obtain ⟨M, sv, e, hsv, ⟨e23, -, e25⟩, -, -⟩ := DO_form h9 a4 (show s < 4 by omega) (J_hh hh h16)
    have hb : ∀ i, i < 4 → tn (M 25 i) < 1200 := fun i hi => by
      rw [e25, dN_k μ s (by decide) (by decide)]
      have := (r2 i hi).2
      omega
    refine ⟨by rw [do_k _ _ _ (k := 18) (by decide)]; rfl, fun j hj => ?_⟩
    rw [e, snd_23 M _ sv hb 4 (by omega) s j (by omega) hj, if_neg (fun z => by rw [hsv] at z; cases z.2.1), e23]
    rfl
  · rw [if_neg hz]
    exact ⟨rfl, fun j _ => rfl⟩
theorem rep_dlv {cy : Nat → ClassId} {e0 vo nn nc s : Nat} {μ : Nat → Nat → Int32} {w : va_W} (h : KK cy e0 vo μ nn nc w) (hn : nn ≤ 20) (hc : nc ≤ 60) (hs : s < 3) (hne : ¬ tn (μ 24 s) = tn (μ 25 s)) (h24 : tn (mDlv μ (nI s) 24 s) = tn (μ 24 s) + 1) : mRepR (mDlv μ (nI s)) (nI s) = mDlvR μ (nI s) := by
  obtain ⟨r1, r2, r3, r4, r5, r6, r7, r8⟩ := KK_ref h (by omega) (by omega)
  obtain ⟨e18, e23⟩ := dlv_23 h hn hc hs hne
  have i3 : mIn (nI s) 0 3 = true := mIn_nI (n := 4) (by omega) (by omega)
  have b1 := (r3 s (by omega)).2
  have b2 := (r2 s (by omega)).2
  rw [mRepR, i3, if_neg (by decide), tn_nI (by omega), h24, if_neg (by omega), e18, show 1200 * s + (tn (μ 24 s) + 1) - 1 = 1200 * s + tn (μ 24 s) by omega, e23 _ (by omega), dlvR_eq μ (by omega), if_neg hne]
  rfl
