/-! p20: what is between two after an act -/
theorem do1_0 {X : Nat → Nat → Int32} {s p q : Nat} (td : Int32) (h3 : X 3 (100 * s + 10 * p + q) = 0) (h4 : X 4 (100 * s + 10 * p + q) = 0) (hA : mIsA X s p q = false) (h5 : X 5 (100 * s + 10 * p + q) = 0) : bt (mDo1 X s 0 p q td) s p q = 1 := by
  rw [mDo1, if_pos rfl]
  unfold bt
  show (if X 4 (100 * s + 10 * p + q) = 0 then (if upd (X 3) (100 * s + 10 * p + q) (bI (!decide (X 3 (100 * s + 10 * p + q) = 0) || (decide (X 4 (100 * s + 10 * p + q) = 0) && !mIsA X s p q))) (100 * s + 10 * p + q) = 0 then 0 else 1) else 2) + (if X 5 (100 * s + 10 * p + q) = 0 then 0 else 4) = 1
  rw [upd_same, if_pos h4, if_pos h5, h3, h4, hA]
  rfl
theorem do1_1 {X : Nat → Nat → Int32} {s p q : Nat} (td : Int32) (h3 : ¬ X 3 (100 * s + 10 * q + p) = 0) (hA : ¬ mIsA X s p q = true) (h5 : X 5 (100 * s + 10 * q + p) = 0) : bt (mDo1 X s 1 p q td) s q p = 2 := by
  rw [mDo1, if_neg (by decide), if_pos rfl, if_neg (fun z => z.elim h3 hA)]
  unfold bt
  show (if upd (X 4) (100 * s + 10 * q + p) 1 (100 * s + 10 * q + p) = 0 then (if upd (X 3) (100 * s + 10 * q + p) 0 (100 * s + 10 * q + p) = 0 then 0 else 1) else 2) + (if X 5 (100 * s + 10 * q + p) = 0 then 0 else 4) = 2
  rw [upd_same, if_neg (by decide), if_pos h5]
theorem do1_2 {X : Nat → Nat → Int32} {s p q : Nat} (td : Int32) (h4 : X 4 (100 * s + 10 * q + p) = 0) (h5 : X 5 (100 * s + 10 * q + p) = 0) : bt (mDo1 X s 2 p q td) s q p = 0 := by
  rw [mDo1, if_neg (by decide), if_neg (by decide), if_pos rfl]
  unfold bt
  show (if X 4 (100 * s + 10 * q + p) = 0 then (if upd (X 3) (100 * s + 10 * q + p) 0 (100 * s + 10 * q + p) = 0 then 0 else 1) else 2) + (if X 5 (100 * s + 10 * q + p) = 0 then 0 else 4) = 0
  rw [upd_same, if_pos h4, if_pos rfl, if_pos h5]
theorem do1_3 {X : Nat → Nat → Int32} {s p q : Nat} (td : Int32) : bt (mDo1 X s 3 p q td) s p q % 4 = 0 := by
  rw [mDo1, if_neg (by decide), if_neg (by decide), if_neg (by decide), if_pos rfl, bt_z]
  exact ⟨upd_same _ _ _, upd_same _ _ _⟩
theorem do1_4 {X : Nat → Nat → Int32} {s p q : Nat} (td : Int32) : bt (mDo1 X s 4 p q td) s p q = 4 := by
  rw [mDo1, if_neg (by decide), if_neg (by decide), if_neg (by decide), if_neg (by decide), if_neg (by decide), if_neg (by decide), if_pos rfl]
  have u : ∀ m : Nat → Int32, upd (upd m (100 * s + 10 * p + q) 0) (100 * s + 10 * q + p) 0 (100 * s + 10 * p + q) = 0 := fun m => by
    by_cases c : 100 * s + 10 * p + q = 100 * s + 10 * q + p
    · rw [← c, upd_same]
    · rw [upd_ne _ _ c, upd_same]
  unfold bt
  show (if upd (upd (X 4) (100 * s + 10 * p + q) 0) (100 * s + 10 * q + p) 0 (100 * s + 10 * p + q) = 0 then (if upd (upd (X 3) (100 * s + 10 * p + q) 0) (100 * s + 10 * q + p) 0 (100 * s + 10 * p + q) = 0 then 0 else 1) else 2) + (if upd (X 5) (100 * s + 10 * p + q) 1 (100 * s + 10 * p + q) = 0 then 0 else 4) = 4
  rw [u, u, upd_same, if_pos rfl, if_pos rfl, if_neg (by decide)]
theorem do1_5 {X : Nat → Nat → Int32} {s p q : Nat} (td : Int32) (h3 : X 3 (100 * s + 10 * p + q) = 0) (h4 : X 4 (100 * s + 10 * p + q) = 0) : bt (mDo1 X s 5 p q td) s p q = 0 := by
  rw [mDo1, if_neg (by decide), if_neg (by decide), if_neg (by decide), if_neg (by decide), if_neg (by decide), if_neg (by decide), if_neg (by decide), bt_0]
  exact ⟨h3, h4, upd_same _ _ _⟩
theorem mov_clr {X : Nat → Nat → Int32} {s p q : Nat} {td : Int32} (hp : p < 10) (hq : q < 10) (hpq : p ≠ q) {f : Nat} (hf : f < 10) : ∀ n, n ≤ 10 → (f < n ∧ kHas td f = true → mMov X s p q td n 4 (100 * s + 10 * f + p) = 0) ∧ (mMov X s p q td n 4 (100 * s + 10 * f + p) = 0 ∨ mMov X s p q td n 4 (100 * s + 10 * f + p) = X 4 (100 * s + 10 * f + p))
  | 0, _ => ⟨fun z => absurd z.1 (Nat.not_lt_zero _), Or.inr rfl⟩
  | n + 1, hn => by
    obtain ⟨ih1, ih2⟩ := mov_clr (X := X) (s := s) (td := td) hp hq hpq hf n (by omega)
    rw [mMov]
    by_cases d : kHas td n = true
    · rw [if_pos ((kHas_1 _ _).mp d)]
      have e : mMov1 (mMov X s p q td n) s p q n 4 (100 * s + 10 * f + p) = if f = n then 0 else mMov X s p q td n 4 (100 * s + 10 * f + p) := by
        have e1 : upd (mMov X s p q td n 4) (100 * s + 10 * n + p) 0 (100 * s + 10 * f + p) = if f = n then 0 else mMov X s p q td n 4 (100 * s + 10 * f + p) := by
          rw [upd3 _ _ (show n < 10 by omega) hp hf hp]
          by_cases c : f = n
          · rw [if_pos ⟨c, rfl⟩, if_pos c]
          · rw [if_neg (fun z => c z.1), if_neg c]
        rw [mMov1]
        split
        · exact e1
        · show upd (upd (mMov X s p q td n 4) (100 * s + 10 * n + p) 0) (100 * s + 10 * n + q) 1 (100 * s + 10 * f + p) = _
          rw [upd3 _ _ (show n < 10 by omega) hq hf hp, if_neg (fun z => hpq z.2)]
          exact e1
      rw [e]
      by_cases c : f = n
      · rw [if_pos c]; exact ⟨fun _ => rfl, Or.inl rfl⟩
      · rw [if_neg c]; exact ⟨fun z => ih1 ⟨by have := z.1; omega, z.2⟩, ih2⟩
    · rw [if_neg (fun z => d ((kHas_1 _ _).mpr z))]
      refine ⟨fun z => ih1 ⟨?_, z.2⟩, ih2⟩
      have : ¬ f = n := fun y => d (y ▸ z.2)
      have := z.1
      omega
theorem do1_7 {X : Nat → Nat → Int32} {s p q : Nat} {td : Int32} (h1 : X 1 0 = nI 6) (hp : p < 6) (hq : q < 6) (hpq : p ≠ q) (ht : ∀ f, f < 6 → ¬ X 4 (100 * s + 10 * f + p) = 0 → kHas td f = true) {f : Nat} (hf : f < 6) : bt (mDo1 X s 7 p q td) s f p % 4 ≠ 2 := by
  rw [mDo1, if_neg (by decide), if_neg (by decide), if_neg (by decide), if_neg (by decide), if_neg (by decide), if_pos rfl, h1, tn_nI (by omega)]
  obtain ⟨c1, c2⟩ := mov_clr (X := X) (s := s) (td := td) (show p < 10 by omega) (show q < 10 by omega) hpq (show f < 10 by omega) 6 (by omega)
  have z : mMov X s p q td 6 4 (100 * s + 10 * f + p) = 0 := by
    by_cases c : X 4 (100 * s + 10 * f + p) = 0
    · rcases c2 with e | e
      · exact e
      · rw [e]; exact c
    · exact c1 ⟨hf, ht f hf c⟩
  exact fun y => (bt_f.mp y) z
/-! p20: the class and the state together -/
def KK (cy : Nat → ClassId) (e0 vo : Nat) (μ : Nat → Nat → Int32) (nn nc : Nat) (w : va_W) : Prop := CI cy e0 vo 130 μ w ∧ J μ nn nc
/-- homes, authors and marks at home are the same -/
def SM (μ μ' : Nat → Nat → Int32) : Prop := μ' 2 = μ 2 ∧ μ' 12 = μ 12 ∧ ∀ n, n < 50 → (GN μ' n ↔ GN μ n)
theorem KK_I4 {cy : Nat → ClassId} {e0 vo nn nc : Nat} {μ : Nat → Nat → Int32} {w : va_W} (h : KK cy e0 vo μ nn nc w) : ∀ s, s < 4 → I4 μ s 6 := by
  obtain ⟨hI, hJ⟩ := h
  obtain ⟨sv, hm, nt, nw, np, nc', χ, sa, nm, nd, nca, NL, nka, nκ, nζ, nα, nau, nkd, nna, nth, nwe, nso, α, fk, fp, fa, ft, g, h, κ, ζ, L, P, lI, pI, dl, δ, e, hP, hR, h5, hS, h7, hnc⟩ := hI
  have e6 : np = 6 := nI_inj (by have := hR.1.1.2; omega) (by omega) (hR.1.1.1.symm.trans hJ.1.1)
  subst e6
  exact fun s hs => (hR.2.2.2.2.2.2.1 s hs).2.2.1
theorem KK_ref {cy : Nat → ClassId} {e0 vo nn nc : Nat} {μ : Nat → Nat → Int32} {w : va_W} (h : KK cy e0 vo μ nn nc w) (hn : nn ≤ 50) (hc : nc < 512) : mWF μ ∧ mLast μ 1198 ∧ (∀ j, j < 4 → isN (μ 24 j) 1201 ∧ tn (μ 24 j) ≤ tn (μ 25 j)) ∧ (∀ s j, s < 4 → nc ≤ j → j < 600 → μ 22 (600 * s + j) = 0) ∧ (∀ s, s < 4 → ¬ tn (μ 24 s) = tn (μ 25 s) → mDlvA μ s < nc) ∧ (∀ s j, s < 4 → nn ≤ j → j < 50 → μ 9 (50 * s + j) = 0) ∧ (∀ j, j < nn → μ 15 j < 0 ∨ tn (μ 15 j) < nn) ∧ ∀ a, a < nc → tn (μ 18 a) < 11 := by
  obtain ⟨r1, r2, r3, r4, r5, r6, r7, r8⟩ := CI_ref h.1 (by omega) h.2.1.2.2.1 hc h.2.1.2.2.2 hn
  exact ⟨r1, fun j hj => isN_mono (r2 j hj) (by omega), r3, r4, r5, r6, r7, r8⟩
theorem KK_of {cy : Nat → ClassId} {e0 vo nn nc : Nat} {μ : Nat → Nat → Int32} {w : va_W} (hI : CI cy e0 vo 131 μ w) (hJ : J μ nn nc) (hc : nc ≤ 60) : KK cy e0 vo μ nn nc w := by
  refine ⟨CI_tight hI (by omega) 130 hJ.1.2.2.1 (by omega) (by omega) (fun i hi => ?_), hJ⟩
  have := (Jp_le hJ.2.2.2.2.2.2.2.2.2 i hi).1
  omega
theorem KK_thr {cy : Nat → ClassId} {e0 vo nn nc : Nat} {μ : Nat → Nat → Int32} {w w' : va_W} {v : Nat → Int32} (h : KK cy e0 vo μ nn nc w) (hc : nc ≤ 60) (h' : CI cy e0 vo 131 (va_up μ 0 v) w') : KK cy e0 vo (va_up μ 0 v) nn nc w' := KK_of h' (J_row h.2 (fun r h0 _ _ _ => va_up_ne _ _ h0)) hc
theorem SM_0 (μ : Nat → Nat → Int32) (v : Nat → Int32) : SM μ (va_up μ 0 v) := ⟨rfl, rfl, fun n _ => GN_rows rfl rfl rfl n⟩
theorem KK_act {cy : Nat → ClassId} {e0 vo nn nc k p q : Nat} {td sv : Int32} {μ : Nat → Nat → Int32} {w w' : va_W} {v : Nat → Int32} (h : KK cy e0 vo μ nn nc w) (hn : nn ≤ 20) (hc : nc < 60) (hk : k < 11) (hp : p < 6) (hq : k < 8 → q < 6 ∧ p ≠ q) (hq8 : 8 ≤ k → q < nn) (h9 : k = 9 → p = tn (μ 12 q)) (h' : CI cy e0 vo 131 (mAct (va_up μ 0 v) k p q td sv) w') : KK cy e0 vo (mAct (va_up μ 0 v) k p q td sv) nn (nc + 1) w' ∧ cD (mAct (va_up μ 0 v) k p q td sv) (tn (μ 2 p)) (nc + 1) = cD μ (tn (μ 2 p)) nc + 1 ∧ (k ≠ 9 → SM μ (mAct (va_up μ 0 v) k p q td sv)) := by
  obtain ⟨r1, r2, r3, r4, r5, r6, r7, r8⟩ := KK_ref h (by omega) (by omega)
  have hJ : J (va_up μ 0 v) nn nc := J_row h.2 (fun r h0 _ _ _ => va_up_ne _ _ h0)
  have hz : ∀ s, s < 4 → (va_up μ 0 v) 22 (600 * s + nc) = 0 := fun s hs => r4 s nc hs (Nat.le_refl _) (by omega)
  have hq50 : q < 50 := (Nat.lt_or_ge k 8).elim (fun c => by have := (hq c).1; omega) (fun c => by have := hq8 c; omega)
  have hh := h.2.1.2.1 p hp
  refine ⟨KK_of h' (J_act hJ hk hp hq hq8 h9 (by omega) (by omega) hz r2) (by omega), ?_, fun c => ⟨?_, ?_, fun n hn2 => ?_⟩⟩
  · have e := act_cD (p := p) (q := q) (k := k) (td := td) (sv := sv) hJ.1.2.2.1 (by omega) hz (show tn (va_up μ 0 v 2 p) < 4 from by show tn (μ 2 p) < 4; omega)
    rw [cD_row (μ := μ) (μ' := va_up μ 0 v) rfl] at e
    exact e
  · rw [act_k _ _ _ _ _ _ (r := 2) (by decide)]; rfl
  · rw [act_k _ _ _ _ _ _ (r := 12) (by decide)]; rfl
  · rw [act_GN hJ.1.2.2.1 (by omega) hk c hq50 hn2]
    exact GN_rows rfl rfl rfl n
