/-! who moves; the set of blocks -/
def b5 (μ : Nat → Nat → Int32) : Prop := ∀ j, μ 5 j = 0 ∨ μ 5 j = 1
theorem b5_rows {μ μ' : Nat → Nat → Int32} (h : b5 μ) (e : μ' 5 = μ 5) : b5 μ' := fun j => by rw [e]; exact h j
theorem b5_up {μ : Nat → Nat → Int32} (h : b5 μ) (k : Nat) {v : Int32} (hv : v = 0 ∨ v = 1) : b5 (va_up μ 5 (upd (μ 5) k v)) := fun j => by
  rw [va_up_self]
  by_cases c : j = k
  · rw [c, upd_same]; exact hv
  · rw [upd_ne _ _ c]; exact h j
theorem b5_do1 {μ : Nat → Nat → Int32} (h : b5 μ) (s k p q : Nat) (td : Int32) : b5 (mDo1 μ s k p q td) := by
  rw [mDo1]
  split
  · exact b5_rows h rfl
  split
  · split
    · exact h
    · exact b5_rows h rfl
  split
  · exact b5_rows h rfl
  split
  · exact b5_rows h rfl
  split
  · exact b5_rows h rfl
  split
  · exact b5_rows h (mMov_k μ s p q td (by decide) (by decide) _)
  split
  · exact b5_rows (b5_up h (100 * s + 10 * p + q) (Or.inr rfl)) rfl
  · exact b5_up h _ (Or.inl rfl)
theorem b5_do {μ : Nat → Nat → Int32} (h : b5 μ) (s a : Nat) : b5 (mDo μ s a) := by
  have h1 : b5 (va_up μ 22 (upd (μ 22) (600 * s + a) 1)) := b5_rows h rfl
  rw [mDo]
  split
  · exact b5_rows h1 (mDoP_k _ s a (by decide) (by decide) (by decide) (by decide) (by decide) (by decide))
  · exact b5_do1 h1 _ _ _ _ _
theorem b5_act {μ : Nat → Nat → Int32} (h : b5 μ) (k p q : Nat) (td sv : Int32) : b5 (mAct μ k p q td sv) := by
  rw [mAct]
  exact b5_do (b5_rows (b5_rows (μ' := mAct0 μ k p q td) h rfl) (mSnd_k _ _ _ (by decide) (by decide) 4)) _ _
theorem mAll_has (μ : Nat → Nat → Int32) (s p : Nat) {o : Nat} (ho : o < 32) : ∀ n, n ≤ 10 → kHas (mAll μ s p n) o = (decide (o < n) && !decide (μ 4 (100 * s + 10 * o + p) = 0))
  | 0, _ => by rw [mAll, kHas_0 ho]; simp
  | n + 1, hn => by
    rw [mAll, kHas_or _ _ ho, mAll_has μ s p ho n (by omega)]
    have e : (if μ 4 (100 * s + 10 * n + p) = 0 then 0 else (1 : Int32) <<< (nI n &&& 31)) = if μ 4 (100 * s + 10 * n + p) = 0 then 0 else kBit n := rfl
    rw [e]
    by_cases c : o = n
    · subst c
      by_cases d : μ 4 (100 * s + 10 * o + p) = 0
      · simp [d, kHas_0 ho]
      · simp [d, kHas_bit ho ho]
    · have e2 : decide (o < n + 1) = decide (o < n) := decide_eq_decide.mpr ⟨fun z => by omega, fun z => by omega⟩
      rw [e2]
      by_cases d : μ 4 (100 * s + 10 * n + p) = 0
      · rw [if_pos d, kHas_0 ho, Bool.or_false]
      · rw [if_neg d, kHas_bit (by omega) ho, decide_eq_false c, Bool.or_false]
theorem mAll_kFo {κi : Nat → Nat → Int32} {μ : Nat → Nat → Int32} {i p np : Nat} (h4 : r4 κi μ i) (hI : I4 μ i np) (hp : p < 10) (hn : np ≤ 10) : mAll μ i p np = kFo κi p 10 := kHas_ext (fun o ho => by
  rw [mAll_has μ i p ho np hn, kFo_has κi p 10 (by omega) ho]
  by_cases c : o < 10
  · rw [h4.2.1.1 o p c hp]
    by_cases d : o < np
    · simp [c, d]
    · have : μ 4 (100 * i + 10 * o + p) = 0 := Classical.byContradiction (fun z => d ((hI o p c hp).2 (Or.inr z)).1)
      simp [this]
  · have d : ¬ o < np := by omega
    simp [c, d])
theorem kFo_np {κi : Nat → Nat → Int32} {μ : Nat → Nat → Int32} {i p np : Nat} (h4 : r4 κi μ i) (hI : I4 μ i np) (hp : p < 10) : ∀ f, f < 10 → kHas (kFo κi p 10) f = true → f < np := fun f hf h => by
  rw [kFo_has κi p 10 (by omega) (by omega), h4.2.1.1 f p hf hp] at h
  have : ¬ μ 4 (100 * i + 10 * f + p) = 0 := fun z => by simp [z] at h
  exact ((hI f p hf hp).2 (Or.inr this)).1
theorem mCnt_sT (μ : Nat → Nat → Int32) (s p : Nat) : ∀ n, mCnt μ s p n = nI (sT (fun f => if μ 4 (100 * s + 10 * f + p) = 0 then 0 else 1) n)
  | 0 => rfl
  | n + 1 => by
    rw [mCnt, mCnt_sT μ s p n]
    by_cases c : μ 4 (100 * s + 10 * n + p) = 0
    · rw [if_pos c]
      show _ = nI (sT _ n + if μ 4 (100 * s + 10 * n + p) = 0 then 0 else 1)
      rw [if_pos c]; simp
    · rw [if_neg c]
      show _ = nI (sT _ n + if μ 4 (100 * s + 10 * n + p) = 0 then 0 else 1)
      rw [if_neg c]; exact nI_1 _
theorem mCnt_kFo {κi : Nat → Nat → Int32} {μ : Nat → Nat → Int32} {i p np : Nat} (h4 : r4 κi μ i) (hI : I4 μ i np) (hp : p < 10) (hn : np ≤ 10) : mCnt μ i p np = jIbc (kFo κi p 10) := by
  rw [mCnt_sT, jIbc_10 (fun q h1 h2 => by rw [kFo_has κi p 10 (by omega) h2, decide_eq_false (by omega), Bool.false_and])]
  congr 1
  have z : sT (fun f => if μ 4 (100 * i + 10 * f + p) = 0 then 0 else 1) (np + (10 - np)) = sT (fun f => if μ 4 (100 * i + 10 * f + p) = 0 then 0 else 1) np := sT_zero (10 - np) (fun j h1 h2 => by
    have : μ 4 (100 * i + 10 * j + p) = 0 := Classical.byContradiction (fun z => by have := ((hI j p (by omega) hp).2 (Or.inr z)).1; omega)
    rw [if_pos this])
  rw [← z, show np + (10 - np) = 10 by omega]
  apply sT_congr
  intro q hq
  show _ = if kHas (kFo κi p 10) q = true then 1 else 0
  rw [kFo_has κi p 10 (by omega) (by omega), h4.2.1.1 q p hq hp]
  by_cases c : μ 4 (100 * i + 10 * q + p) = 0 <;> simp [c, hq]
theorem or_mask (x b m : Int32) : ((x &&& (m ^^^ (-1))) ||| b) &&& (m ^^^ (-1)) = (x ||| b) &&& (m ^^^ (-1)) := kHas_ext (fun q hq => by
  rw [kHas_andn _ _ hq, kHas_andn _ _ hq, kHas_or _ _ hq, kHas_or _ _ hq, kHas_andn _ _ hq]
  cases kHas x q <;> cases kHas b q <;> cases kHas m q <;> rfl)
theorem mAct_mask {np nc nn : Nat} {χ : Nat → Nat} {μ : Nat → Nat → Int32} (h : q0 np nc nn χ μ) {p : Nat} (hp : p < 10) (k q : Nat) (td sv sw : Int32) (e : sv &&& (kBit (χ p) ^^^ (-1)) = sw &&& (kBit (χ p) ^^^ (-1))) : mAct μ k p q td sv = mAct μ k p q td sw := by
  rw [mAct, mAct, (hom_q0 h hp).1]
  have e2 : sv &&& (((1 : Int32) <<< (nI (χ p) &&& 31)) ^^^ (-1)) = sw &&& (((1 : Int32) <<< (nI (χ p) &&& 31)) ^^^ (-1)) := e
  rw [e2]
theorem mMve_RR {np nc nn : Nat} {χ nau : Nat → Nat} {nkd nna nth nwe nso : Nat → Int32} {fk fp fa : Nat → Nat} {ft : Nat → Int32} {κ : Nat → Nat → Nat → Int32} {ζ : Nat → Nat → Nat → Int64} {lI pI : Nat → List Nat} {dl : Nat → Nat} {δ : Nat → Nat → Int32} {μ : Nat → Nat → Int32} {N : Nat} (h : RR np nc nn χ nau nkd nna nth nwe nso fk fp fa ft κ ζ lI pI dl δ μ N) {p q : Nat} (hp : p < np) (hq : q < np) : mMve μ (nI p) (nI q) = (if kHas (κ (χ p) 3 q) p = true then mAct (va_up μ 0 (fun _ => 0)) 7 p q (kFo (κ (χ p)) p 10) (kHo χ (kFo (κ (χ p)) p 10) np ||| kBit (χ q)) else va_up μ 0 (fun _ => 2)) ∧ mMveR μ (nI p) (nI q) = (if kHas (κ (χ p) 3 q) p = true then jIbc (kFo (κ (χ p)) p 10) else 0) ∧ mMveT μ (nI p) (nI q) = (if kHas (κ (χ p) 3 q) p = true then 0 else 2) := by
  obtain ⟨h0, hW, hA, h2, h3, h4, hS, h6⟩ := h
  have n2 := h0.1.2
  have hp10 : p < 10 := by omega
  have hq10 : q < 10 := by omega
  have hs := (hS _ (hom_q0 h0 hp10).2).1
  have hI := (hS _ (hom_q0 h0 hp10).2).2.2.1
  have hn : tn (μ 1 0) = np := by rw [h0.1.1, tn_nI (by omega)]
  have hT : mMveT μ (nI p) (nI q) = if kHas (κ (χ p) 3 q) p = true then 0 else 2 := by
    rw [mMveT, mTwo_nI h0 hp hq, if_neg (by decide), tn_nI (by omega), tn_nI (by omega), (hom_q0 h0 hp10).1, hs.2.2.2 q p hq10 hp10]
    simp only [decide_eq_true_eq]
  refine ⟨?_, ?_, hT⟩
  · rw [mMve, hT]
    by_cases c : kHas (κ (χ p) 3 q) p = true
    · rw [if_pos c, if_pos rfl, if_pos c, tn_nI (by omega), tn_nI (by omega), (hom_q0 h0 hp10).1, hn, mAll_kFo hs hI hp10 n2, mHb_q0 h0 hq10, mSrv_ho (np := np) hs hp10 (fun k hk => (h0.2.1 k hk).1) hn n2]
      exact mAct_mask (np := np) (nc := nc) (nn := nn) (μ := va_up μ 0 (fun _ => 0)) h0 hp10 7 q _ _ _ (or_mask _ _ _)
    · rw [if_neg c, if_neg (by decide), if_neg c]
  · rw [mMveR, hT]
    by_cases c : kHas (κ (χ p) 3 q) p = true
    · rw [if_pos c, if_pos rfl, if_pos c, tn_nI (by omega), (hom_q0 h0 hp10).1, hn, mCnt_kFo hs hI hp10 n2]
    · rw [if_neg c, if_neg (by decide), if_neg c]
