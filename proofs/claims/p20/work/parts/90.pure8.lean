/-! p20: the acts, case by case -/
theorem cD_0 (μ : Nat → Nat → Int32) (v : Nat → Int32) (s k : Nat) : cD (va_up μ 0 v) s k = cD μ s k := cD_row (μ := μ) (μ' := va_up μ 0 v) rfl s k
theorem bt_v0 (μ : Nat → Nat → Int32) (v : Nat → Int32) (s p q : Nat) : bt (va_up μ 0 v) s p q = bt μ s p q := bt_rows (μ := μ) (μ' := va_up μ 0 v) rfl rfl rfl s p q
theorem lo_bt {μ : Nat → Nat → Int32} {v : Nat → Int32} {nc k p q : Nat} {td sv : Int32} (h17 : μ 17 0 = nI nc) (hnc : nc < 512) (hk : k < 8) (hp : p < 50) (hq : q < 50) : ∃ X : Nat → Nat → Int32, (X 1 = μ 1 ∧ X 3 = μ 3 ∧ X 4 = μ 4 ∧ X 5 = μ 5) ∧ ∀ s a b, bt (mAct (va_up μ 0 v) k p q td sv) s a b = bt (mDo1 X (tn (μ 2 p)) k p q td) s a b := by
  obtain ⟨X, h1, h2⟩ := act_lo (μ := va_up μ 0 v) (k := k) (p := p) (q := q) (td := td) (sv := sv) (show (va_up μ 0 v) 17 0 = nI nc from h17) hnc hk hp hq
  exact ⟨X, ⟨h1 1 (by decide), h1 3 (by decide), h1 4 (by decide), h1 5 (by decide)⟩, fun s a b => bt_rows (h2 3 (by decide)) (h2 4 (by decide)) (h2 5 (by decide)) s a b⟩
theorem isA_row {μ X : Nat → Nat → Int32} (e : X 5 = μ 5) (s p q : Nat) : mIsA X s p q = mIsA μ s p q := by
  unfold mIsA
  rw [e]
theorem isA_f {μ : Nat → Nat → Int32} {s p q : Nat} : mIsA μ s p q = false ↔ μ 5 (100 * s + 10 * p + q) = 0 ∧ μ 5 (100 * s + 10 * q + p) = 0 := by
  rw [mIsA]
  by_cases c : μ 5 (100 * s + 10 * p + q) = 0 <;> by_cases d : μ 5 (100 * s + 10 * q + p) = 0 <;> simp [c, d]
theorem c_follow {cy : Nat → ClassId} {e0 vo nn nc p q : Nat} {μ : Nat → Nat → Int32} {w w' : va_W} (h : KK cy e0 vo μ nn nc w) (hn : nn ≤ 20) (hc : nc < 60) (hp : p < 6) (hq : q < 6) (hpq : p ≠ q) (h' : CI cy e0 vo 131 (mFlw μ (nI p) (nI q)) w') (m : Bool) (hm : m = decide (bt μ (tn (μ 2 p)) p q = 0 ∧ bt μ (tn (μ 2 p)) q p < 4)) : ∃ nc', nc' ≤ nc + 1 ∧ KK cy e0 vo (mFlw μ (nI p) (nI q)) nn nc' w' ∧ SM μ (mFlw μ (nI p) (nI q)) ∧ decide (mFlw μ (nI p) (nI q) 0 0 = 0) = m ∧ cD (mFlw μ (nI p) (nI q)) (tn (μ 2 p)) nc' = (if m = true then cD μ (tn (μ 2 p)) nc + 1 else cD μ (tn (μ 2 p)) nc) ∧ bt (mFlw μ (nI p) (nI q)) (tn (μ 2 p)) p q = (if m = true then 1 else bt μ (tn (μ 2 p)) p q) := by
  obtain ⟨s, es⟩ : ∃ s, s = tn (μ 2 p) := ⟨_, rfl⟩
  have e : mFlw μ (nI p) (nI q) = if ¬ μ 3 (100 * s + 10 * p + q) = 0 ∨ ¬ μ 4 (100 * s + 10 * p + q) = 0 ∨ mIsA μ s p q = true then va_up μ 0 (fun _ => 3) else mAct (va_up μ 0 (fun _ => 0)) 0 p q 0 (mHb μ q) := by
    rw [mFlw, mTwo_6 h.2.1.1 hp hq, if_neg (by decide), tn_nI (by omega), tn_nI (by omega), if_neg hpq, es]
  rw [e] at h' ⊢
  rw [← es] at hm ⊢
  by_cases d : ¬ μ 3 (100 * s + 10 * p + q) = 0 ∨ ¬ μ 4 (100 * s + 10 * p + q) = 0 ∨ mIsA μ s p q = true
  · rw [if_pos d] at h' ⊢
    have em : m = false := by
      rw [hm]
      refine decide_eq_false (fun z => ?_)
      obtain ⟨z1, z2⟩ := z
      obtain ⟨a1, a2, a3⟩ := bt_0.mp z1
      rcases d with d | d | d
      · exact d a1
      · exact d a2
      · rw [isA_f.mpr ⟨a3, bt_4.mp z2⟩] at d; cases d
    rw [em, if_neg (by decide), if_neg (by decide)]
    exact ⟨nc, by omega, KK_thr h (by omega) h', SM_0 _ _, (show decide ((3 : Int32) = 0) = false from by decide), cD_0 μ _ s nc, bt_v0 μ _ s p q⟩
  · rw [if_neg d] at h' ⊢
    have d3 : μ 3 (100 * s + 10 * p + q) = 0 := Classical.byContradiction (fun z => d (Or.inl z))
    have d4 : μ 4 (100 * s + 10 * p + q) = 0 := Classical.byContradiction (fun z => d (Or.inr (Or.inl z)))
    have dA : mIsA μ s p q = false := Bool.eq_false_iff.mpr (fun z => d (Or.inr (Or.inr z)))
    obtain ⟨d5, d6⟩ := isA_f.mp dA
    have em : m = true := by
      rw [hm]
      exact decide_eq_true ⟨bt_0.mpr ⟨d3, d4, d5⟩, bt_4.mpr d6⟩
    rw [em, if_pos rfl, if_pos rfl]
    obtain ⟨k1, k2, k3⟩ := KK_act h hn hc (by omega) hp (fun _ => ⟨hq, hpq⟩) (fun z => absurd z (by omega)) (fun z => absurd z (by omega)) h'
    refine ⟨nc + 1, by omega, k1, k3 (by omega), ?_, by rw [es]; exact k2, ?_⟩
    · rw [mAct_0]; exact (show decide ((0 : Int32) = 0) = true from by decide)
    · obtain ⟨X, ⟨x1, x3, x4, x5⟩, hX⟩ := lo_bt (μ := μ) (v := fun _ => 0) (k := 0) (p := p) (q := q) (td := 0) (sv := mHb μ q) h.2.1.2.2.1 (by omega) (by omega) (by omega) (by omega)
      rw [hX, ← es]
      exact do1_0 0 (by rw [x3]; exact d3) (by rw [x4]; exact d4) (by rw [isA_row x5]; exact dA) (by rw [x5]; exact d5)
theorem c_answer {cy : Nat → ClassId} {e0 vo nn nc p q : Nat} {μ : Nat → Nat → Int32} {w w' : va_W} (x : Bool) (h : KK cy e0 vo μ nn nc w) (hn : nn ≤ 20) (hc : nc < 60) (hp : p < 6) (hq : q < 6) (hpq : p ≠ q) (h' : CI cy e0 vo 131 (mAns μ (nI p) (nI q) x) w') (m : Bool) (hm : m = decide (bt μ (tn (μ 2 p)) q p % 4 = 1)) : ∃ nc', nc' ≤ nc + 1 ∧ KK cy e0 vo (mAns μ (nI p) (nI q) x) nn nc' w' ∧ SM μ (mAns μ (nI p) (nI q) x) ∧ decide (mAns μ (nI p) (nI q) x 0 0 = 0) = m ∧ bt (mAns μ (nI p) (nI q) x) (tn (μ 2 p)) q p = (if m = true then (if x = true then 2 else 0) else bt μ (tn (μ 2 p)) q p) := by
  obtain ⟨s, es⟩ : ∃ s, s = tn (μ 2 p) := ⟨_, rfl⟩
  have hs := h.2.1.2.1 p hp
  rw [← es] at hs
  have e : mAns μ (nI p) (nI q) x = if μ 3 (100 * s + 10 * q + p) = 0 then va_up μ 0 (fun _ => 2) else mAct (va_up μ 0 (fun _ => 0)) (if x = true then 1 else 2) p q 0 (mHb μ q) := by
    rw [mAns, mTwo_6 h.2.1.1 hp hq, if_neg (by decide), tn_nI (by omega), tn_nI (by omega), es]
  rw [e] at h' ⊢
  rw [← es] at hm ⊢
  have hI := KK_I4 h s (by omega)
  have hw := bt_well hI (h.2.2.2.2.1 s (by omega)) hq hp
  by_cases d : μ 3 (100 * s + 10 * q + p) = 0
  · rw [if_pos d] at h' ⊢
    have em : m = false := by
      rw [hm]
      exact decide_eq_false (fun z => (hw.2.2.mp z) d)
    rw [em, if_neg (by decide)]
    exact ⟨nc, by omega, KK_thr h (by omega) h', SM_0 _ _, (show decide ((2 : Int32) = 0) = false from by decide), bt_v0 μ _ s q p⟩
  · rw [if_neg d] at h' ⊢
    have em : m = true := by
      rw [hm]
      exact decide_eq_true (hw.2.2.mpr d)
    obtain ⟨d4, d5, d6⟩ := (hI q p (by omega) (by omega)).1 d
    rw [em, if_pos rfl]
    have hk : (if x = true then 1 else 2) < 8 ∧ (if x = true then 1 else 2) ≠ 9 := by cases x <;> decide
    obtain ⟨k1, k2, k3⟩ := KK_act h hn hc (show (if x = true then 1 else 2) < 11 by omega) hp (fun _ => ⟨hq, hpq⟩) (fun z => absurd z (by omega)) (fun z => absurd z (by omega)) h'
    refine ⟨nc + 1, by omega, k1, k3 (by omega), ?_, ?_⟩
    · rw [mAct_0]; exact (show decide ((0 : Int32) = 0) = true from by decide)
    · obtain ⟨X, ⟨x1, x3, x4, x5⟩, hX⟩ := lo_bt (μ := μ) (v := fun _ => 0) (k := if x = true then 1 else 2) (p := p) (q := q) (td := 0) (sv := mHb μ q) h.2.1.2.2.1 (by omega) (by omega) (by omega) (by omega)
      rw [hX, ← es]
      cases x
      · exact do1_2 0 (by rw [x4]; exact d4) (by rw [x5]; exact d5)
      · exact do1_1 0 (by rw [x3]; exact d) (by rw [isA_row x5, isA_f.mpr ⟨d6, d5⟩]; decide) (by rw [x5]; exact d5)
theorem c_leave {cy : Nat → ClassId} {e0 vo nn nc p q : Nat} {μ : Nat → Nat → Int32} {w w' : va_W} (h : KK cy e0 vo μ nn nc w) (hn : nn ≤ 20) (hc : nc < 60) (hp : p < 6) (hq : q < 6) (hpq : p ≠ q) (h' : CI cy e0 vo 131 (mLea μ (nI p) (nI q)) w') : ∃ nc', nc' ≤ nc + 1 ∧ KK cy e0 vo (mLea μ (nI p) (nI q)) nn nc' w' ∧ SM μ (mLea μ (nI p) (nI q)) ∧ decide (mLea μ (nI p) (nI q) 0 0 = 0) = decide (0 < bt μ (tn (μ 2 p)) p q % 4) ∧ bt (mLea μ (nI p) (nI q)) (tn (μ 2 p)) p q % 4 = 0 := by
  obtain ⟨s, es⟩ : ∃ s, s = tn (μ 2 p) := ⟨_, rfl⟩
  have e : mLea μ (nI p) (nI q) = if μ 3 (100 * s + 10 * p + q) = 0 ∧ μ 4 (100 * s + 10 * p + q) = 0 then va_up μ 0 (fun _ => 2) else mAct (va_up μ 0 (fun _ => 0)) 3 p q 0 (mHb μ q) := by
    rw [mLea, mTwo_6 h.2.1.1 hp hq, if_neg (by decide), tn_nI (by omega), tn_nI (by omega), es]
  rw [e] at h' ⊢
  rw [← es]
  by_cases d : μ 3 (100 * s + 10 * p + q) = 0 ∧ μ 4 (100 * s + 10 * p + q) = 0
  · rw [if_pos d] at h' ⊢
    have z := bt_z.mpr d
    exact ⟨nc, by omega, KK_thr h (by omega) h', SM_0 _ _, (show decide ((2 : Int32) = 0) = _ from by rw [z]; decide), by rw [bt_v0]; exact z⟩
  · rw [if_neg d] at h' ⊢
    have z : ¬ bt μ s p q % 4 = 0 := fun y => d (bt_z.mp y)
    obtain ⟨k1, k2, k3⟩ := KK_act h hn hc (by omega) hp (fun _ => ⟨hq, hpq⟩) (fun z => absurd z (by omega)) (fun z => absurd z (by omega)) h'
    refine ⟨nc + 1, by omega, k1, k3 (by omega), ?_, ?_⟩
    · rw [mAct_0, decide_eq_true (show 0 < bt μ s p q % 4 by omega)]; exact (show decide ((0 : Int32) = 0) = true from by decide)
    · obtain ⟨X, ⟨x1, x3, x4, x5⟩, hX⟩ := lo_bt (μ := μ) (v := fun _ => 0) (k := 3) (p := p) (q := q) (td := 0) (sv := mHb μ q) h.2.1.2.2.1 (by omega) (by omega) (by omega) (by omega)
      rw [hX, ← es]
      exact do1_3 0
theorem c_block {cy : Nat → ClassId} {e0 vo nn nc p q : Nat} {μ : Nat → Nat → Int32} {w w' : va_W} (x : Bool) (h : KK cy e0 vo μ nn nc w) (hn : nn ≤ 20) (hc : nc < 60) (hp : p < 6) (hq : q < 6) (hpq : p ≠ q) (h' : CI cy e0 vo 131 (mBlo μ (nI p) (nI q) x) w') (hx : ¬ μ 5 (100 * tn (μ 2 p) + 10 * p + q) = bI x) : KK cy e0 vo (mBlo μ (nI p) (nI q) x) nn (nc + 1) w' ∧ SM μ (mBlo μ (nI p) (nI q) x) ∧ bt (mBlo μ (nI p) (nI q) x) (tn (μ 2 p)) p q = (if x = true then 4 else 0) := by
  obtain ⟨s, es⟩ : ∃ s, s = tn (μ 2 p) := ⟨_, rfl⟩
  have hs := h.2.1.2.1 p hp
  rw [← es] at hs hx ⊢
  have e : mBlo μ (nI p) (nI q) x = mAct (va_up μ 0 (fun _ => 0)) (if x = true then 4 else 5) p q 0 (mHb μ q) := by
    rw [mBlo, mTwo_6 h.2.1.1 hp hq, if_neg (by decide), tn_nI (by omega), tn_nI (by omega), if_neg hpq, ← es, if_neg hx]
  rw [e] at h' ⊢
  have hk : (if x = true then 4 else 5) < 8 ∧ (if x = true then 4 else 5) ≠ 9 := by cases x <;> decide
  obtain ⟨k1, k2, k3⟩ := KK_act h hn hc (show (if x = true then 4 else 5) < 11 by omega) hp (fun _ => ⟨hq, hpq⟩) (fun z => absurd z (by omega)) (fun z => absurd z (by omega)) h'
  refine ⟨k1, k3 (by omega), ?_⟩
  obtain ⟨X, ⟨x1, x3, x4, x5⟩, hX⟩ := lo_bt (μ := μ) (v := fun _ => 0) (k := if x = true then 4 else 5) (p := p) (q := q) (td := 0) (sv := mHb μ q) h.2.1.2.2.1 (by omega) (by omega) (by omega) (by omega)
  rw [hX, ← es]
  cases x
  · have hI := KK_I4 h s (by omega)
    have hF := h.2.2.2.2.1 s (by omega)
    have c3 : μ 3 (100 * s + 10 * p + q) = 0 := Classical.byContradiction (fun z => hx ((hI p q (by omega) (by omega)).1 z).2.1)
    have c4 : μ 4 (100 * s + 10 * p + q) = 0 := Classical.byContradiction (fun z => hx ((hF p q (by omega) (by omega)).1 z).1)
    exact do1_5 0 (by rw [x3]; exact c3) (by rw [x4]; exact c4)
  · exact do1_4 0
theorem c_alias {cy : Nat → ClassId} {e0 vo nn nc p q : Nat} {μ : Nat → Nat → Int32} {w w' : va_W} (h : KK cy e0 vo μ nn nc w) (hn : nn ≤ 20) (hc : nc < 60) (hp : p < 6) (hq : q < 6) (hpq : p ≠ q) (h' : CI cy e0 vo 131 (mAli μ (nI p) (nI q)) w') : KK cy e0 vo (mAli μ (nI p) (nI q)) nn (nc + 1) w' ∧ SM μ (mAli μ (nI p) (nI q)) ∧ cD (mAli μ (nI p) (nI q)) (tn (μ 2 p)) (nc + 1) = cD μ (tn (μ 2 p)) nc + 1 := by
  have e : mAli μ (nI p) (nI q) = mAct (va_up μ 0 (fun _ => 0)) 6 p q 0 (mHb μ q) := by
    rw [mAli, mTwo_6 h.2.1.1 hp hq, if_neg (by decide), tn_nI (by omega), tn_nI (by omega), if_neg hpq]
  rw [e] at h' ⊢
  obtain ⟨k1, k2, k3⟩ := KK_act h hn hc (by omega) hp (fun _ => ⟨hq, hpq⟩) (fun z => absurd z (by omega)) (fun z => absurd z (by omega)) h'
  exact ⟨k1, k3 (by omega), k2⟩
theorem c_move {cy : Nat → ClassId} {e0 vo nn nc p q : Nat} {μ : Nat → Nat → Int32} {w w' : va_W} (h : KK cy e0 vo μ nn nc w) (hn : nn ≤ 20) (hc : nc < 60) (hp : p < 6) (hq : q < 6) (hpq : p ≠ q) (h' : CI cy e0 vo 131 (mMve μ (nI p) (nI q)) w') (m : Bool) (hm : m = decide (mMve μ (nI p) (nI q) 0 0 = 0)) : ∃ nc', nc' ≤ nc + 1 ∧ KK cy e0 vo (mMve μ (nI p) (nI q)) nn nc' w' ∧ SM μ (mMve μ (nI p) (nI q)) ∧ cD (mMve μ (nI p) (nI q)) (tn (μ 2 p)) nc' = (if m = true then cD μ (tn (μ 2 p)) nc + 1 else cD μ (tn (μ 2 p)) nc) ∧ (m = true → ∀ f, f < 6 → bt (mMve μ (nI p) (nI q)) (tn (μ 2 p)) f p % 4 ≠ 2) := by
  obtain ⟨s, es⟩ : ∃ s, s = tn (μ 2 p) := ⟨_, rfl⟩
  have hT : mMveT μ (nI p) (nI q) = if μ 6 (10 * s + q) = nI (p + 1) then 0 else 2 := by
    rw [mMveT, mTwo_6 h.2.1.1 hp hq, if_neg (by decide), tn_nI (by omega), tn_nI (by omega), es]
  have e : mMve μ (nI p) (nI q) = if μ 6 (10 * s + q) = nI (p + 1) then mAct (va_up μ 0 (fun _ => 0)) 7 p q (mAll μ s p 6) (mSrv μ s p ||| mHb μ q) else va_up μ 0 (fun _ => 2) := by
    rw [mMve, hT, tn_nI (by omega), tn_nI (by omega), h.2.1.1, tn_nI (by omega), ← es]
    by_cases d : μ 6 (10 * s + q) = nI (p + 1)
    · rw [if_pos d, if_pos rfl, if_pos d]
    · rw [if_neg d, if_neg (by decide), if_neg d]
  rw [e] at h' hm ⊢
  rw [← es]
  by_cases d : μ 6 (10 * s + q) = nI (p + 1)
  · rw [if_pos d] at h' hm ⊢
    have em : m = true := by rw [hm, mAct_0]; exact (show decide ((0 : Int32) = 0) = true from by decide)
    rw [em, if_pos rfl]
    obtain ⟨k1, k2, k3⟩ := KK_act h hn hc (by omega) hp (fun _ => ⟨hq, hpq⟩) (fun z => absurd z (by omega)) (fun z => absurd z (by omega)) h'
    rw [← es] at k2
    refine ⟨nc + 1, by omega, k1, k3 (by omega), k2, fun _ f hf => ?_⟩
    obtain ⟨X, ⟨x1, x3, x4, x5⟩, hX⟩ := lo_bt (μ := μ) (v := fun _ => 0) (k := 7) (p := p) (q := q) (td := mAll μ s p 6) (sv := mSrv μ s p ||| mHb μ q) h.2.1.2.2.1 (by omega) (by omega) (by omega) (by omega)
    rw [hX, ← es]
    refine do1_7 (by rw [x1]; exact h.2.1.1) hp hq hpq (fun f hf z => ?_) hf
    rw [mAll_has μ s p (by omega) 6 (by omega), decide_eq_true hf, ← x4, decide_eq_false z]
    rfl
  · rw [if_neg d] at h' hm ⊢
    have em : m = false := by rw [hm]; exact (show decide ((2 : Int32) = 0) = false from by decide)
    rw [em, if_neg (by decide)]
    exact ⟨nc, by omega, KK_thr h (by omega) h', SM_0 _ _, cD_0 μ _ s nc, fun z => by cases z⟩
