/-! p20: an act of somebody's; a delivery; a post -/
theorem J_row {μ μ' : Nat → Nat → Int32} {nn nc : Nat} (h : J μ nn nc) (e : ∀ r, r ≠ 0 → r ≠ 10 → r ≠ 23 → r ≠ 24 → μ' r = μ r) : J μ' nn nc := by
  obtain ⟨hh, hA, hg, hF, hM, hZ, h9, h16, h3, hp⟩ := h
  have e1 := e 1 (by decide) (by decide) (by decide) (by decide)
  have e2 := e 2 (by decide) (by decide) (by decide) (by decide)
  have e3 := e 3 (by decide) (by decide) (by decide) (by decide)
  have e4 := e 4 (by decide) (by decide) (by decide) (by decide)
  have e5 := e 5 (by decide) (by decide) (by decide) (by decide)
  have e7 := e 7 (by decide) (by decide) (by decide) (by decide)
  have e8 := e 8 (by decide) (by decide) (by decide) (by decide)
  have e9 := e 9 (by decide) (by decide) (by decide) (by decide)
  have e11 := e 11 (by decide) (by decide) (by decide) (by decide)
  have e12 := e 12 (by decide) (by decide) (by decide) (by decide)
  have e13 := e 13 (by decide) (by decide) (by decide) (by decide)
  have e15 := e 15 (by decide) (by decide) (by decide) (by decide)
  have e16 := e 16 (by decide) (by decide) (by decide) (by decide)
  have e17 := e 17 (by decide) (by decide) (by decide) (by decide)
  have e18 := e 18 (by decide) (by decide) (by decide) (by decide)
  have e19 := e 19 (by decide) (by decide) (by decide) (by decide)
  have e20 := e 20 (by decide) (by decide) (by decide) (by decide)
  have e22 := e 22 (by decide) (by decide) (by decide) (by decide)
  have e25 := e 25 (by decide) (by decide) (by decide) (by decide)
  refine ⟨⟨by rw [e1]; exact hh.1, by rw [e2]; exact hh.2.1, by rw [e17]; exact hh.2.2.1, by rw [e11]; exact hh.2.2.2⟩, fun a ha => by rw [e18, e19, e20]; exact hA a ha, fun a ha => by rw [e18, e20, GN_rows e2 e8 e12]; exact hg a ha, fun s hs => JF_rows (hF s hs) e3 e4 e5, JM_rows hM e7 e8, fun s n hs => by rw [e8]; exact hZ s n hs, J9_rows h9 e2 e12 e13 e15 e9, fun n hn => by rw [e12, e16, e2]; exact h16 n hn, fun a ha => by rw [e22]; exact h3 a ha, fun i hi => by rw [e25, cD_row e22, cD_row e22, cD_row e22]; exact hp i hi⟩
/-- the state at which an act of somebody's is done at home: registered, and sent -/
def aN (μ : Nat → Nat → Int32) (k p q : Nat) (td sv : Int32) : Nat → Nat → Int32 := mSnd (mAct0 μ k p q td) (nI (tn (μ 17 0))) (sv &&& (((1 : Int32) <<< (nI (tn (μ 2 p)) &&& 31)) ^^^ (-1))) 4
theorem aN_act (μ : Nat → Nat → Int32) (k p q : Nat) (td sv : Int32) : mAct μ k p q td sv = mDo (aN μ k p q td sv) (tn (μ 2 p)) (tn (μ 17 0)) := rfl
theorem aN_k (μ : Nat → Nat → Int32) (k p q : Nat) (td sv : Int32) {r : Nat} (h : r ≠ 17 ∧ r ≠ 18 ∧ r ≠ 19 ∧ r ≠ 20 ∧ r ≠ 21 ∧ r ≠ 23 ∧ r ≠ 25) : aN μ k p q td sv r = μ r := by
  obtain ⟨h17, h18, h19, h20, h21, h23, h25⟩ := h
  rw [aN, mSnd_k _ _ _ h23 h25, mAct0, va_up_ne _ _ h17, va_up_ne _ _ h21, va_up_ne _ _ h20, va_up_ne _ _ h19, va_up_ne _ _ h18]
theorem aN_new (μ : Nat → Nat → Int32) (k p q : Nat) (td sv : Int32) : aN μ k p q td sv 17 = (fun _ => nI (tn (μ 17 0) + 1)) ∧ aN μ k p q td sv 18 = upd (μ 18) (tn (μ 17 0)) (nI k) ∧ aN μ k p q td sv 19 = upd (μ 19) (tn (μ 17 0)) (nI p) ∧ aN μ k p q td sv 20 = upd (μ 20) (tn (μ 17 0)) (nI q) ∧ aN μ k p q td sv 21 = upd (μ 21) (tn (μ 17 0)) td := by
  rw [aN, mSnd_k _ _ _ (by decide) (by decide), mSnd_k _ _ _ (by decide) (by decide), mSnd_k _ _ _ (by decide) (by decide), mSnd_k _ _ _ (by decide) (by decide), mSnd_k _ _ _ (by decide) (by decide)]
  exact ⟨rfl, rfl, rfl, rfl, rfl⟩
theorem aN_25 (μ : Nat → Nat → Int32) (k p q : Nat) (td sv : Int32) (hL : mLast μ 1198) : mLast (aN μ k p q td sv) 1199 ∧ ∀ i, i < 4 → tn (aN μ k p q td sv 25 i) ≤ tn (μ 25 i) + 1 := by
  have hL0 : mLast (mAct0 μ k p q td) 1198 := hL
  refine ⟨mSnd_mLast _ _ _ hL0 (by omega) 4, fun i hi => ?_⟩
  rw [aN, snd_tn _ _ _ hi (hL0 i hi) (by omega)]
  have : tn (mAct0 μ k p q td 25 i) = tn (μ 25 i) := rfl
  split <;> omega
theorem J_act {μ : Nat → Nat → Int32} {nn nc k p q : Nat} {td sv : Int32} (h : J μ nn nc) (hk : k < 11) (hp : p < 6) (hq : k < 8 → q < 6 ∧ p ≠ q) (hq8 : 8 ≤ k → q < nn) (h9 : k = 9 → p = tn (μ 12 q)) (hnc : nc < 512) (hnn : nn ≤ 50) (hz : ∀ s, s < 4 → μ 22 (600 * s + nc) = 0) (hL : mLast μ 1198) : J (mAct μ k p q td sv) nn (nc + 1) := by
  obtain ⟨hh, hA, hg, hF, hM, hZ, j9, h16, h3, hpp⟩ := h
  have n0 : tn (μ 17 0) = nc := by rw [hh.2.2.1, tn_nI (by omega)]
  have r := fun (r : Nat) (h : r ≠ 17 ∧ r ≠ 18 ∧ r ≠ 19 ∧ r ≠ 20 ∧ r ≠ 21 ∧ r ≠ 23 ∧ r ≠ 25) => aN_k μ k p q td sv h
  obtain ⟨r17, r18, r19, r20, r21⟩ := aN_new μ k p q td sv
  obtain ⟨rL, r25⟩ := aN_25 μ k p q td sv hL
  rw [n0] at r17 r18 r19 r20 r21
  have hq50 : q < 50 := (Nat.lt_or_ge k 8).elim (fun c => by have := (hq c).1; omega) (fun c => by have := hq8 c; omega)
  have hs := hh.2.1 p hp
  have g2 := r 2 (by decide)
  have g12 := r 12 (by decide)
  have g22 := r 22 (by decide)
  have cm : ∀ i, cD μ i nc ≤ cD (aN μ k p q td sv) i (nc + 1) := fun i => by
    rw [cD_row g22, cD]; omega
  rw [aN_act, n0]
  refine J_do (nn := nn) (nc := nc + 1) ⟨?_, ?_, ?_, ?_⟩ ?_ ?_ ?_ ?_ (JM_rows hM (r 7 (by decide)) (r 8 (by decide))) ?_ (J9_rows j9 g2 g12 (r 13 (by decide)) (r 15 (by decide)) (r 9 (by decide))) ?_ ?_ ?_ hs (by omega) (by omega) (by omega) ?_ rL
  · rw [r 1 (by decide)]; exact hh.1
  · rw [g2]; exact hh.2.1
  · rw [r17]
  · rw [r 11 (by decide)]; exact hh.2.2.2
  · intro a ha
    rw [r18, r19, r20]
    by_cases c : a = nc
    · rw [c, upd_same, upd_same, upd_same, tn_nI (by omega), tn_nI (by omega), tn_nI (by omega)]
      exact ⟨hk, hp, hq, hq8⟩
    · rw [upd_ne _ _ c, upd_ne _ _ c, upd_ne _ _ c]
      exact hA a (by omega)
  · intro b hb hne
    rw [r18, r20, upd_ne _ _ hne, upd_ne _ _ hne, GN_rows g2 (r 8 (by decide)) g12]
    exact hg b (by omega)
  · rw [r18, r20, upd_same, upd_same, tn_nI (by omega), tn_nI (by omega)]
    intro c
    rw [g12, g2, ← h9 c]
    exact Or.inl rfl
  · exact fun s hs => JF_rows (hF s hs) (r 3 (by decide)) (r 4 (by decide)) (r 5 (by decide))
  · intro s n hs
    rw [r 8 (by decide)]
    exact hZ s n hs
  · intro n hn
    rw [g12, r 16 (by decide), g2]
    exact h16 n hn
  · intro a ha
    rw [g22]
    exact h3 a ha
  · intro i hi
    have h1 := hpp i hi
    have h2 := r25 i hi
    have c0 := cm 0
    have c1 := cm 1
    have c2 := cm 2
    rcases (show i = 0 ∨ i = 1 ∨ i = 2 ∨ i = 3 by omega) with rfl | rfl | rfl | rfl <;> simp at h1 ⊢ <;> omega
  · rw [g22]; exact hz _ (by omega)
/-- how many acts were done where, after an act -/
theorem act_cD {μ : Nat → Nat → Int32} {nc k p q : Nat} {td sv : Int32} (h17 : μ 17 0 = nI nc) (hnc : nc < 512) (hz : ∀ s, s < 4 → μ 22 (600 * s + nc) = 0) (hp : tn (μ 2 p) < 4) : cD (mAct μ k p q td sv) (tn (μ 2 p)) (nc + 1) = cD μ (tn (μ 2 p)) nc + 1 := by
  have n0 : tn (μ 17 0) = nc := by rw [h17, tn_nI (by omega)]
  have g22 := aN_k μ k p q td sv (r := 22) (by decide)
  rw [aN_act, n0, cD_do (do_22 _ _ _) (by rw [g22]; exact hz _ hp) (nc + 1) (by omega), cD_row g22, cD, if_pos (hz _ hp)]
/-- what is between people after an act -/
theorem act_lo {μ : Nat → Nat → Int32} {nc k p q : Nat} {td sv : Int32} (h17 : μ 17 0 = nI nc) (hnc : nc < 512) (hk : k < 8) (hp : p < 50) (hq : q < 50) : ∃ X : Nat → Nat → Int32, (∀ r, r = 1 ∨ r = 3 ∨ r = 4 ∨ r = 5 ∨ r = 6 → X r = μ r) ∧ ∀ r, r = 3 ∨ r = 4 ∨ r = 5 → mAct μ k p q td sv r = mDo1 X (tn (μ 2 p)) k p q td r := by
  have n0 : tn (μ 17 0) = nc := by rw [h17, tn_nI (by omega)]
  obtain ⟨r17, r18, r19, r20, r21⟩ := aN_new μ k p q td sv
  rw [n0] at r17 r18 r19 r20 r21
  refine ⟨mW (aN μ k p q td sv) (tn (μ 2 p)) nc, fun r hr => ?_, fun r hr => ?_⟩
  · rw [← aN_k μ k p q td sv (r := r) (by omega)]
    exact va_up_ne _ _ (by omega)
  · rw [aN_act, n0, mDo, r18, upd_same, tn_nI (by omega), if_neg (by omega), r19, r20, r21, upd_same, upd_same, upd_same, tn_nI (by omega), tn_nI (by omega)]
    rfl
/-- what is known of posts after an act -/
theorem act_hi {μ : Nat → Nat → Int32} {nc k p q : Nat} {td sv : Int32} (h17 : μ 17 0 = nI nc) (hnc : nc < 512) (hk : k < 11) (hk8 : 8 ≤ k) (hp : p < 50) (hq : q < 50) : (∀ r, r = 3 ∨ r = 4 ∨ r = 5 → mAct μ k p q td sv r = μ r) ∧ (k = 9 → mAct μ k p q td sv 7 = upd (μ 7) (50 * tn (μ 2 p) + q) 0 ∧ mAct μ k p q td sv 8 = upd (μ 8) (50 * tn (μ 2 p) + q) 1) ∧ (¬ k = 9 → mAct μ k p q td sv 7 = upd (μ 7) (50 * tn (μ 2 p) + q) (bI (decide (μ 8 (50 * tn (μ 2 p) + q) = 0))) ∧ mAct μ k p q td sv 8 = μ 8) ∧ (k = 10 → mAct μ k p q td sv 10 = upd (μ 10) (500 * tn (μ 2 p) + 50 * p + q) 1) := by
  have n0 : tn (μ 17 0) = nc := by rw [h17, tn_nI (by omega)]
  obtain ⟨r17, r18, r19, r20, r21⟩ := aN_new μ k p q td sv
  rw [n0] at r17 r18 r19 r20 r21
  have k18 : tn (aN μ k p q td sv 18 nc) = k := by rw [r18, upd_same, tn_nI (by omega)]
  have k19 : tn (aN μ k p q td sv 19 nc) = p := by rw [r19, upd_same, tn_nI (by omega)]
  have k20 : tn (aN μ k p q td sv 20 nc) = q := by rw [r20, upd_same, tn_nI (by omega)]
  rw [aN_act, n0]
  refine ⟨fun r hr => ?_, fun c => ?_, fun c => ?_, fun c => ?_⟩
  · rw [do_hi (by omega) (by omega)]; exact aN_k μ k p q td sv (by omega)
  · obtain ⟨e7, e8, -⟩ := do_9 (s := tn (μ 2 p)) (show tn (aN μ k p q td sv 18 nc) = 9 by omega)
    rw [e7, e8, k20, aN_k μ k p q td sv (r := 7) (by decide), aN_k μ k p q td sv (r := 8) (by decide)]
    exact ⟨rfl, rfl⟩
  · by_cases c8 : k = 8
    · obtain ⟨e7, e8, -⟩ := do_8 (s := tn (μ 2 p)) (show tn (aN μ k p q td sv 18 nc) = 8 by omega)
      rw [e7, e8, k20, aN_k μ k p q td sv (r := 7) (by decide), aN_k μ k p q td sv (r := 8) (by decide)]
      exact ⟨rfl, rfl⟩
    · obtain ⟨e7, e8, -⟩ := do_10 (s := tn (μ 2 p)) (show 9 < tn (aN μ k p q td sv 18 nc) by omega)
      rw [e7, e8, k20, aN_k μ k p q td sv (r := 7) (by decide), aN_k μ k p q td sv (r := 8) (by decide)]
      exact ⟨rfl, rfl⟩
  · obtain ⟨-, -, e10⟩ := do_10 (s := tn (μ 2 p)) (show 9 < tn (aN μ k p q td sv 18 nc) by omega)
    rw [e10, k20, k19, aN_k μ k p q td sv (r := 10) (by decide)]
/-- marks at home after an act that deletes nothing -/
theorem act_GN {μ : Nat → Nat → Int32} {nc k p q : Nat} {td sv : Int32} (h17 : μ 17 0 = nI nc) (hnc : nc < 512) (hk : k < 11) (h9 : k ≠ 9) (hq : q < 50) {n : Nat} (hn : n < 50) : GN (mAct μ k p q td sv) n ↔ GN μ n := by
  have n0 : tn (μ 17 0) = nc := by rw [h17, tn_nI (by omega)]
  obtain ⟨r17, r18, r19, r20, r21⟩ := aN_new μ k p q td sv
  rw [n0] at r17 r18 r19 r20 r21
  rw [aN_act, n0, GN_do n (by rw [r18, upd_same, tn_nI (by omega)]; exact fun z => absurd z h9) (by rw [r20, upd_same, tn_nI (by omega)]; exact hq) hn]
  exact GN_rows (aN_k μ k p q td sv (by decide)) (aN_k μ k p q td sv (by decide)) (aN_k μ k p q td sv (by decide)) n
theorem act_k (μ : Nat → Nat → Int32) (k p q : Nat) (td sv : Int32) {r : Nat} (h : r = 0 ∨ r = 1 ∨ r = 2 ∨ r = 11 ∨ r = 12 ∨ r = 13 ∨ r = 14 ∨ r = 15 ∨ r = 16 ∨ r = 24) : mAct μ k p q td sv r = μ r := by
  rw [aN_act, do_k _ _ _ (by omega), aN_k μ k p q td sv (by omega)]
/-- who deletes: marked at home, no other is -/
theorem act_del {μ : Nat → Nat → Int32} {nc p q : Nat} {td sv : Int32} (h17 : μ 17 0 = nI nc) (hnc : nc < 512) (hp : p < 50) (hq : q < 50) (hpq : p = tn (μ 12 q)) {n : Nat} (hn : n < 50) : GN (mAct μ 9 p q td sv) n ↔ (n = q ∨ GN μ n) := by
  obtain ⟨-, h9, -, -⟩ := act_hi (sv := sv) (td := td) (k := 9) h17 hnc (by decide) (by decide) hp hq
  unfold GN
  rw [act_k μ 9 p q td sv (r := 2) (by decide), act_k μ 9 p q td sv (r := 12) (by decide), (h9 rfl).2]
  by_cases e : n = q
  · subst e
    rw [← hpq, upd_same]
    exact ⟨fun _ => Or.inl rfl, fun _ => by decide⟩
  · rw [upd_ne _ _ (by omega)]
    exact ⟨fun z => Or.inr z, fun z => z.resolve_left e⟩
