/-! p20: posts: told, deleted, boosted, delivered -/
theorem bits_b : ∀ a b c d : Bool, ¬ (a && b && c && d) = true → ∃ k : Fin 4, (0 + bI a + bI b + bI c + bI d : Int32) = nI k.val := by decide
theorem bit_bI (x : Int32) {k : Nat} : (x >>> (nI k &&& 31)) &&& 1 = bI (kHas x k) := by
  by_cases c : kHas x k = true
  · rw [c, (kHas_1 _ _).mp c]; rfl
  · rw [Bool.eq_false_iff.mpr c]
    rcases jb_and1 (x >>> (nI k &&& 31)) with z | z
    · rw [z]; rfl
    · exact absurd ((kHas_1 _ _).mpr z) c
theorem mBits_3 {x : Int32} {b : Nat} (hb : b < 4) (h : kHas x b = false) : ∃ k, k ≤ 3 ∧ mBits x 4 = nI k := by
  have e : mBits x 4 = 0 + bI (kHas x 0) + bI (kHas x 1) + bI (kHas x 2) + bI (kHas x 3) := by
    rw [← bit_bI, ← bit_bI, ← bit_bI, ← bit_bI]
    rfl
  rw [e]
  obtain ⟨k, hk⟩ := bits_b (kHas x 0) (kHas x 1) (kHas x 2) (kHas x 3) (fun z => by
    simp only [Bool.and_eq_true] at z
    rcases (show b = 0 ∨ b = 1 ∨ b = 2 ∨ b = 3 by omega) with rfl | rfl | rfl | rfl
    · rw [h] at z; cases z.1.1.1
    · rw [h] at z; cases z.1.1.2
    · rw [h] at z; cases z.1.2
    · rw [h] at z; cases z.2)
  exact ⟨k.val, by have := k.isLt; omega, hk⟩
theorem c_delete {cy : Nat → ClassId} {e0 vo nn nc n : Nat} {μ : Nat → Nat → Int32} {w w' : va_W} (h : KK cy e0 vo μ nn nc w) (hn : nn ≤ 20) (hc : nc < 60) (hi : n < nn) (h' : CI cy e0 vo 131 (mDel μ (nI n)) w') (r : Int32) (hr : r = (if mDel μ (nI n) 0 0 = 0 then mDelR μ (nI n) else -1)) : ∃ nc', nc' ≤ nc + 1 ∧ KK cy e0 vo (mDel μ (nI n)) nn nc' w' ∧ (mDel μ (nI n) 2 = μ 2 ∧ mDel μ (nI n) 12 = μ 12 ∧ ∀ j, j < 50 → (GN (mDel μ (nI n)) j ↔ (j = n ∨ GN μ j))) ∧ ((¬ GN μ n ∧ ∃ k, k ≤ 3 ∧ r = nI k) ∨ (GN μ n ∧ r = -1)) := by
  have hM := h.2.2.2.2.2.2.2.2.1
  obtain ⟨h6, h16, -⟩ := h.2.2.2.2.2.2.2
  have hau := (h16 n hi).1
  have hho := J_home h.2.1 h16 hi
  have i2 : mIn (nI n) 0 (μ 11 0 - 1) = true := by rw [h.2.1.2.2.2]; exact mIn_nI (by omega) hi
  have hT : mDelT μ (nI n) = if μ 8 (50 * tn (μ 2 (tn (μ 12 n))) + n) = 0 then 0 else 2 := by
    rw [mDelT, i2, if_neg (by decide), tn_nI (by omega)]
  by_cases d : μ 8 (50 * tn (μ 2 (tn (μ 12 n))) + n) = 0
  · rw [if_pos d] at hT
    have e : mDel μ (nI n) = mAct (va_up μ 0 (fun _ => 0)) 9 (tn (μ 12 n)) n 0 (mDelS μ (nI n)) := by rw [mDel, hT, if_pos rfl, tn_nI (by omega)]
    have eR : mDelR μ (nI n) = mBits (mDelS μ (nI n)) 4 := by rw [mDelR, hT, if_pos rfl]
    rw [e] at h' hr ⊢
    obtain ⟨k1, k2, -⟩ := KK_act h hn hc (by omega) hau (fun z => absurd z (by omega)) (fun _ => hi) (fun _ => rfl) h'
    refine ⟨nc + 1, by omega, k1, ⟨?_, ?_, fun j hj => ?_⟩, Or.inl ⟨fun z => z d, ?_⟩⟩
    · rw [act_k _ _ _ _ _ _ (r := 2) (by decide)]; rfl
    · rw [act_k _ _ _ _ _ _ (r := 12) (by decide)]; rfl
    · exact (act_del (μ := va_up μ 0 (fun _ => 0)) (p := tn (μ 12 n)) (q := n) (td := 0) (sv := mDelS μ (nI n)) (show (va_up μ 0 (fun _ => 0)) 17 0 = nI nc from h.2.1.2.2.1) (by omega) (by omega) (by omega) rfl hj).trans (or_congr Iff.rfl (GN_rows rfl rfl rfl j))
    · rw [mAct_0, eR] at hr
      have hb : kHas (mDelS μ (nI n)) (tn (μ 2 (tn (μ 12 n)))) = false := by
        rw [mDelS, tn_nI (by omega), kHas_or _ _ (by omega), (h16 n hi).2, (h6 n (tn (μ 2 (tn (μ 12 n)))) hi (by omega)).1]
        rfl
      obtain ⟨k, hk, ek⟩ := mBits_3 (show tn (μ 2 (tn (μ 12 n))) < 4 by omega) hb
      exact ⟨k, hk, hr.trans ((if_pos (show (va_up μ 0 (fun _ => 0)) 0 0 = 0 from rfl)).trans ek)⟩
  · rw [if_neg d] at hT
    have e : mDel μ (nI n) = va_up μ 0 (fun _ => 2) := by rw [mDel, hT, if_neg (by decide)]
    rw [e] at h' hr ⊢
    refine ⟨nc, by omega, KK_thr h (by omega) h', ⟨rfl, rfl, fun j hj => ⟨fun z => Or.inr z, fun z => ?_⟩⟩, Or.inr ⟨d, ?_⟩⟩
    · rcases z with rfl | z
      · exact d
      · exact z
    · rw [hr]; exact if_neg (show ¬ (va_up μ 0 (fun _ => 2)) 0 0 = 0 from (by decide : ¬ (2 : Int32) = 0))
theorem boo_eq {μ : Nat → Nat → Int32} {nn p n : Nat} (h1 : μ 1 0 = nI 6) (h11 : μ 11 0 = nI nn) (hn : nn ≤ 50) (hp : p < 6) (hi : n < nn) : mBoo μ (nI p) (nI n) = if mSeen μ p n = false ∨ ¬ μ 13 n = 0 ∨ ¬ μ 10 (500 * tn (μ 2 p) + 50 * p + n) = 0 then va_up μ 0 (fun _ => 2) else mAct (va_up μ 0 (fun _ => 0)) 10 p n 0 (mSrv μ (tn (μ 2 p)) p ||| mHb μ (tn (μ 12 n))) := by
  have i1 : mIn (nI p) 0 (μ 1 0 - 1) = true := by rw [h1]; exact mIn_nI (by omega) hp
  have i2 : mIn (nI n) 0 (μ 11 0 - 1) = true := by rw [h11]; exact mIn_nI (by omega) hi
  have hT : mBooT μ (nI p) (nI n) = if mSeen μ p n = false ∨ ¬ μ 13 n = 0 ∨ ¬ μ 10 (500 * tn (μ 2 p) + 50 * p + n) = 0 then 2 else 0 := by
    rw [mBooT, i1, i2, if_neg (show ¬ (true = false ∨ true = false) by decide), tn_nI (by omega), tn_nI (by omega)]
  rw [mBoo, hT, tn_nI (by omega), tn_nI (by omega)]
  by_cases d : mSeen μ p n = false ∨ ¬ μ 13 n = 0 ∨ ¬ μ 10 (500 * tn (μ 2 p) + 50 * p + n) = 0
  · rw [if_pos d, if_neg (by decide), if_pos d]
  · rw [if_neg d, if_pos rfl, if_neg d]
theorem seen_rows {μ μ' : Nat → Nat → Int32} {p n : Nat} (e2 : μ' 2 = μ 2) (e4 : μ' 4 = μ 4) (e5 : μ' 5 = μ 5) (e12 : μ' 12 = μ 12) (e13 : μ' 13 = μ 13) (e14 : μ' 14 = μ 14) (e7 : μ' 7 (50 * tn (μ 2 p) + n) = 0 ↔ μ 7 (50 * tn (μ 2 p) + n) = 0) : mSeen μ' p n = mSeen μ p n := by
  rw [mSeen, mSeen, isA_row e5, mNam, mNam, e2, e4, e12, e13, e14]
  rw [show decide (μ' 7 (50 * tn (μ 2 p) + n) = 0) = decide (μ 7 (50 * tn (μ 2 p) + n) = 0) from decide_eq_decide.mpr e7]
theorem c_boost {cy : Nat → ClassId} {e0 vo nn nc p n : Nat} {μ : Nat → Nat → Int32} {w w' : va_W} (h : KK cy e0 vo μ nn nc w) (hn : nn ≤ 20) (hc : nc < 60) (hp : p < 6) (hi : n < nn) (h' : CI cy e0 vo 131 (mBoo μ (nI p) (nI n)) w') : ∃ nc', nc' ≤ nc + 1 ∧ KK cy e0 vo (mBoo μ (nI p) (nI n)) nn nc' w' ∧ SM μ (mBoo μ (nI p) (nI n)) ∧ (mBoo μ (nI p) (nI n) 0 0 = 0 → mSeen (mBoo μ (nI p) (nI n)) p n = true ∧ mBoo (mBoo μ (nI p) (nI n)) (nI p) (nI n) = va_up (mBoo μ (nI p) (nI n)) 0 (fun _ => 2)) := by
  have hM := h.2.2.2.2.2.1
  have hho := h.2.1.2.1 p hp
  have e := boo_eq h.2.1.1 h.2.1.2.2.2 (by omega) hp hi
  by_cases d : mSeen μ p n = false ∨ ¬ μ 13 n = 0 ∨ ¬ μ 10 (500 * tn (μ 2 p) + 50 * p + n) = 0
  · rw [if_pos d] at e
    rw [e] at h' ⊢
    exact ⟨nc, by omega, KK_thr h (by omega) h', SM_0 _ _, fun z => absurd z (show ¬ (2 : Int32) = 0 by decide)⟩
  · rw [if_neg d] at e
    rw [e] at h' ⊢
    obtain ⟨k1, k2, k3⟩ := KK_act h hn hc (by omega) hp (fun z => absurd z (by omega)) (fun _ => hi) (fun z => absurd z (by omega)) h'
    have k4 := k3 (by omega)
    obtain ⟨a1, -, a3, a4⟩ := act_hi (μ := va_up μ 0 (fun _ => 0)) (k := 10) (p := p) (q := n) (td := 0) (sv := mSrv μ (tn (μ 2 p)) p ||| mHb μ (tn (μ 12 n))) (show (va_up μ 0 (fun _ => 0)) 17 0 = nI nc from h.2.1.2.2.1) (by omega) (by omega) (by omega) (by omega) (by omega)
    have a10 := a4 rfl
    obtain ⟨a7, a8⟩ := a3 (by omega)
    have hs : mSeen μ p n = true := by cases z : mSeen μ p n; exact absurd (Or.inl z) d; rfl
    have h7 : ¬ μ 7 (50 * tn (μ 2 p) + n) = 0 := fun z => by
      rw [mSeen, z] at hs
      simp at hs
    have h8 : μ 8 (50 * tn (μ 2 p) + n) = 0 := Classical.byContradiction (fun z => h7 (hM _ n (by omega) (by omega) z))
    have hseen : mSeen (mAct (va_up μ 0 (fun _ => 0)) 10 p n 0 (mSrv μ (tn (μ 2 p)) p ||| mHb μ (tn (μ 12 n)))) p n = true := by
      rw [seen_rows (μ := μ) k4.1 (a1 4 (by decide)) (a1 5 (by decide)) k4.2.1 (by rw [act_k _ _ _ _ _ _ (r := 13) (by decide)]; rfl) (by rw [act_k _ _ _ _ _ _ (r := 14) (by decide)]; rfl) ?_]
      · exact hs
      · rw [a7]
        refine ⟨fun z => ?_, fun z => absurd z h7⟩
        exfalso
        revert z
        show ¬ upd (μ 7) (50 * tn (μ 2 p) + n) (bI (decide (μ 8 (50 * tn (μ 2 p) + n) = 0))) (50 * tn (μ 2 p) + n) = 0
        rw [upd_same, h8]
        decide
    refine ⟨nc + 1, by omega, k1, k4, fun _ => ⟨hseen, ?_⟩⟩
    rw [boo_eq k1.2.1.1 k1.2.1.2.2.2 (by omega) hp hi, if_pos]
    refine Or.inr (Or.inr ?_)
    rw [a10, k4.1]
    show ¬ upd (μ 10) (500 * tn (μ 2 p) + 50 * p + n) 1 (500 * tn (μ 2 p) + 50 * p + n) = 0
    rw [upd_same]
    decide
theorem atHR_t {μ : Nat → Nat → Int32} {p n : Nat} (h : tn (μ 12 n) = p) : ∀ q, mAtHR μ p n q = true
  | 0 => by rw [mAtHR, decide_eq_true h]; rfl
  | q + 1 => by rw [mAtHR, atHR_t h q]; rfl
theorem c_post {cy : Nat → ClassId} {e0 vo nn nc p : Nat} {k a r : Int32} {μ : Nat → Nat → Int32} {w w' : va_W} (h : KK cy e0 vo μ nn nc w) (hn : nn < 20) (hc : nc < 60) (hp : p < 6) (hT : mPosT μ (nI p) k a r = 0) (h' : CI cy e0 vo 131 (mPos μ (nI p) k a r) w') : KK cy e0 vo (mPos μ (nI p) k a r) (nn + 1) (nc + 1) w' ∧ mPos μ (nI p) k a r 2 = μ 2 ∧ mPos μ (nI p) k a r 12 = upd (μ 12) nn (nI p) ∧ (∀ n, n < 50 → (GN (mPos μ (nI p) k a r) n ↔ GN μ n)) ∧ mSeen (mPos μ (nI p) k a r) p nn = true ∧ mHomF (mPos μ (nI p) k a r) p (nn + 1) (nI 0) = nI nn := by
  obtain ⟨r1, r2, r3, r4, r5, r6, r7, r8⟩ := KK_ref h (by omega) (by omega)
  have hho := h.2.1.2.1 p hp
  have n0 : tn (μ 11 0) = nn := by rw [h.2.1.2.2.2, tn_nI (by omega)]
  have e : mPos μ (nI p) k a r = mAct (mPos0 μ (nI p) k a r) 8 p nn 0 (mTo μ (nI p) k a r) := by rw [mPos, hT, if_pos rfl, n0, tn_nI (by omega)]
  rw [e] at h' ⊢
  have hJ := J_pos0 (k := k) (a := a) (r := r) h.2 hp (by omega) (fun n hn => (r7 n hn).imp id (fun z => by omega)) (fun s hs => r6 s nn hs (Nat.le_refl _) (by omega))
  have hz : ∀ s, s < 4 → (mPos0 μ (nI p) k a r) 22 (600 * s + nc) = 0 := fun s hs => r4 s nc hs (Nat.le_refl _) (by omega)
  have h17 : (mPos0 μ (nI p) k a r) 17 0 = nI nc := hJ.1.2.2.1
  have hJ2 := J_act (k := 8) (p := p) (q := nn) (td := 0) (sv := mTo μ (nI p) k a r) hJ (by omega) hp (fun z => absurd z (by omega)) (fun _ => by omega) (fun z => absurd z (by omega)) (by omega) (by omega) hz r2
  have kk := KK_of h' hJ2 (by omega)
  have e12 : mPos0 μ (nI p) k a r 12 = upd (μ 12) nn (nI p) := by
    show upd (μ 12) (tn (μ 11 0)) (nI (tn (nI p))) = _
    rw [n0, tn_nI (by omega)]
  have f2 : mAct (mPos0 μ (nI p) k a r) 8 p nn 0 (mTo μ (nI p) k a r) 2 = μ 2 := by rw [act_k _ _ _ _ _ _ (r := 2) (by decide)]; rfl
  have f12 : mAct (mPos0 μ (nI p) k a r) 8 p nn 0 (mTo μ (nI p) k a r) 12 = upd (μ 12) nn (nI p) := by rw [act_k _ _ _ _ _ _ (r := 12) (by decide), e12]
  obtain ⟨a1, -, a3, -⟩ := act_hi (μ := mPos0 μ (nI p) k a r) (k := 8) (p := p) (q := nn) (td := 0) (sv := mTo μ (nI p) k a r) h17 (by omega) (by omega) (by omega) (by omega) (by omega)
  obtain ⟨a7, a8⟩ := a3 (by omega)
  have hau : tn (mAct (mPos0 μ (nI p) k a r) 8 p nn 0 (mTo μ (nI p) k a r) 12 nn) = p := by rw [f12, upd_same, tn_nI (by omega)]
  have hs : mSeen (mAct (mPos0 μ (nI p) k a r) 8 p nn 0 (mTo μ (nI p) k a r)) p nn = true := by
    have hz8 : μ 8 (50 * tn (μ 2 p) + nn) = 0 := h.2.2.2.2.2.2.1 _ nn (by omega) (Nat.le_refl _) (by omega)
    have h7 : ¬ mAct (mPos0 μ (nI p) k a r) 8 p nn 0 (mTo μ (nI p) k a r) 7 (50 * tn (μ 2 p) + nn) = 0 := by
      rw [a7]
      show ¬ upd (μ 7) (50 * tn (μ 2 p) + nn) (bI (decide (μ 8 (50 * tn (μ 2 p) + nn) = 0))) (50 * tn (μ 2 p) + nn) = 0
      rw [upd_same, hz8]
      decide
    have hF := h.2.2.2.2.1 (tn (μ 2 p)) (by omega)
    have h5 : μ 5 (100 * tn (μ 2 p) + 10 * p + p) = 0 := Classical.byContradiction (fun z => (hF p p (by omega) (by omega)).2.2 z rfl)
    have hA : mIsA (mAct (mPos0 μ (nI p) k a r) 8 p nn 0 (mTo μ (nI p) k a r)) (tn (μ 2 p)) p p = false := by
      rw [isA_row (μ := μ) (a1 5 (by decide))]
      exact isA_f.mpr ⟨h5, h5⟩
    rw [mSeen, f2, hau, hA, decide_eq_false h7, decide_eq_true rfl]
    rfl
  refine ⟨kk, f2, f12, fun n hn2 => ?_, hs, ?_⟩
  · rw [act_GN h17 (by omega) (by omega) (by omega) (by omega) hn2]
    exact pos0_GN h.2 hp (by omega) (fun j hj => (r1.2.1 _ (by have := (r1.2.2.1 j hj).2; omega)).2) hn2
  · rw [mHomF, if_pos (show mAtH _ p nn = true by rw [mAtH, atHR_t hau, hs]; rfl), if_pos (show nI 0 = 0 from rfl)]
theorem c_dlv {cy : Nat → ClassId} {e0 vo nn nc s : Nat} {μ : Nat → Nat → Int32} {w w' : va_W} (h : KK cy e0 vo μ nn nc w) (hn : nn ≤ 20) (hc : nc ≤ 60) (hs : s < 3) (hne : ¬ tn (μ 24 s) = tn (μ 25 s)) (h' : CI cy e0 vo 131 (mDlv μ (nI s)) w') : KK cy e0 vo (mDlv μ (nI s)) nn nc w' ∧ SM μ (mDlv μ (nI s)) ∧ (tn (mDlv μ (nI s) 24 s) = tn (μ 24 s) + 1 ∧ ∀ i, i ≠ s → mDlv μ (nI s) 24 i = μ 24 i) ∧ mDlv μ (nI s) 25 s = μ 25 s ∧ (cD μ s nc ≤ cD (mDlv μ (nI s)) s nc ∧ cD (mDlv μ (nI s)) s nc ≤ cD μ s nc + 1) ∧ (∀ i, i < 4 → qu μ i → qu (mDlv μ (nI s)) i) ∧ (qu μ s → ∀ i, i < 4 → mDlv μ (nI s) 25 i = μ 25 i) := by
  obtain ⟨r1, r2, r3, r4, r5, r6, r7, r8⟩ := KK_ref h (by omega) (by omega)
  obtain ⟨d1, d2, d3, d4, d5, d6, d7⟩ := J_dlv h.2 hs hne (r5 s (by omega) hne) (by omega) (by omega) (mLast_mono μ r2 (by omega)) (r3 s (by omega)).1 (r3 s (by omega)).2
  refine ⟨KK_of h' d1 hc, ⟨?_, ?_, d5⟩, d2, d3, d4, d6, d7⟩
  · rw [dlv_eq μ (show s < 4 by omega), if_neg hne]
    split
    · rw [do_k _ _ _ (k := 2) (by decide)]; rfl
    · rfl
  · rw [dlv_eq μ (show s < 4 by omega), if_neg hne]
    split
    · rw [do_k _ _ _ (k := 12) (by decide)]; rfl
    · rfl
