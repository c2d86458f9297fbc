/-! packets: the places of acts, server by server -/
def rP (pI : Nat → List Nat) (μ : Nat → Nat → Int32) (nc : Nat) : Prop := ∀ i, i < 4 → μ 25 i = nI (pI i).length ∧ ∀ x a, (pI i)[x]? = some a → a < nc ∧ μ 23 (1200 * i + x) = nI a
theorem rP_rows {pI : Nat → List Nat} {μ μ' : Nat → Nat → Int32} {nc : Nat} (h : rP pI μ nc) (h23 : μ' 23 = μ 23) (h25 : μ' 25 = μ 25) : rP pI μ' nc := by
  unfold rP
  rw [h23, h25]
  exact h
theorem rP_mono {pI : Nat → List Nat} {μ : Nat → Nat → Int32} {nc n2 : Nat} (h : rP pI μ nc) (hn : nc ≤ n2) : rP pI μ n2 := fun i hi => ⟨(h i hi).1, fun x a hx => ⟨by have := ((h i hi).2 x a hx).1; omega, ((h i hi).2 x a hx).2⟩⟩
theorem rP_snd {pI : Nat → List Nat} {μ : Nat → Nat → Int32} {nc N a : Nat} {sv : Int32} (h : rP pI μ nc) (hl : vq_len pI N) (hN : N < 1200) (ha : a < nc) : ∀ s, s ≤ 4 → rP (sPk pI a sv s) (mSnd μ (nI a) sv s) nc
  | 0, _ => h
  | s + 1, hs => by
    have ih := rP_snd (sv := sv) h hl hN ha s (by omega)
    have hls := sPk_len (y := a) (to := sv) hl s
    rw [sPk, mSnd]
    by_cases hc : kHas sv s = true
    · rw [if_pos hc, if_pos ((kHas_1 sv s).mp hc)]
      have e0 : sPk pI a sv s s = pI s := sPk_ge pI a sv s (Nat.le_refl _)
      have h25 := (ih s (by omega)).1
      have hlen : (sPk pI a sv s s).length ≤ N := by rw [e0]; exact hl s (by omega)
      have htn : tn (mSnd μ (nI a) sv s 25 s) = (sPk pI a sv s s).length := by rw [h25]; exact tn_nI (by omega)
      intro i hi
      show upd (mSnd μ (nI a) sv s 25) s (mSnd μ (nI a) sv s 25 s + 1) i = nI (va_up (sPk pI a sv s) s (sPk pI a sv s s ++ [a]) i).length ∧ ∀ x b, (va_up (sPk pI a sv s) s (sPk pI a sv s s ++ [a]) i)[x]? = some b → b < nc ∧ upd (mSnd μ (nI a) sv s 23) (1200 * s + tn (mSnd μ (nI a) sv s 25 s)) (nI a) (1200 * i + x) = nI b
      rw [htn]
      by_cases e : i = s
      · subst e
        rw [va_up_self, upd_same, h25, nI_1, List.length_append]
        refine ⟨rfl, fun x b hx => ?_⟩
        by_cases hx2 : x < (sPk pI a sv i i).length
        · rw [List.getElem?_append_left hx2] at hx
          rw [upd_ne _ _ (by omega)]
          exact (ih i hi).2 x b hx
        · have hlt := (List.getElem?_eq_some_iff.mp hx).1
          rw [List.length_append, List.length_singleton] at hlt
          have hxe : x = (sPk pI a sv i i).length := by omega
          subst hxe
          rw [List.getElem?_append_right (Nat.le_refl _), Nat.sub_self] at hx
          have hba : a = b := by simpa using hx
          subst hba
          exact ⟨ha, by rw [upd_same]⟩
      · rw [va_up_ne _ _ e, upd_ne _ _ e]
        refine ⟨(ih i hi).1, fun x b hx => ?_⟩
        have hlt := (List.getElem?_eq_some_iff.mp hx).1
        have hle := hls i hi
        rw [upd_ne _ _ (by omega)]
        exact (ih i hi).2 x b hx
    · rw [if_neg hc, if_neg (fun z => hc ((kHas_1 sv s).mpr z))]
      exact ih
theorem pk_isN {μ : Nat → Nat → Int32} {a : Nat} {sv : Int32} (h : ∀ j, j < 4800 → isN (μ 23 j) 600) (ha : a < 600) : ∀ s, ∀ j, j < 4800 → isN (mSnd μ (nI a) sv s 23 j) 600
  | 0 => h
  | s + 1 => by
    have ih := pk_isN (sv := sv) h ha s
    rw [mSnd]
    split
    · intro j hj
      show isN (upd (mSnd μ (nI a) sv s 23) (1200 * s + tn (mSnd μ (nI a) sv s 25 s)) (nI a) j) 600
      by_cases e : j = 1200 * s + tn (mSnd μ (nI a) sv s 25 s)
      · rw [e, upd_same]; exact isN_nI ha (by omega)
      · rw [upd_ne _ _ e]; exact ih j hj
    · exact ih
theorem sPk_map (pI : Nat → List Nat) (α : Nat → Nat) (a : Nat) (sv : Int32) : ∀ s, sPk (fun i => (pI i).map α) (α a) sv s = fun i => (sPk pI a sv s i).map α
  | 0 => rfl
  | s + 1 => by
    have ih := sPk_map pI α a sv s
    rw [sPk, sPk, ih]
    by_cases hc : kHas sv s = true
    · rw [if_pos hc, if_pos hc]
      funext i
      by_cases e : i = s
      · subst e; rw [va_up_self, va_up_self, List.map_append]; rfl
      · rw [va_up_ne _ _ e, va_up_ne _ _ e]
    · rw [if_neg hc, if_neg hc]
theorem up_map (l : Nat → List Nat) (α : Nat → Nat) (i j : Nat) : va_up (fun k => (l k).map α) i ((l i).map α ++ [α j]) = fun k => (va_up l i (l i ++ [j]) k).map α := by
  funext k
  by_cases e : k = i
  · subst e; rw [va_up_self, va_up_self, List.map_append]; rfl
  · rw [va_up_ne _ _ e, va_up_ne _ _ e]
/-- the new act's address: the lists are as before -/
theorem map_new {l : List Nat} {α : Nat → Nat} {n q : Nat} (h : ∀ x ∈ l, x < n) : l.map (va_up α n q) = l.map α := List.map_congr_left (fun x hx => va_up_ne _ _ (Nat.ne_of_lt (h x hx)))
/-! what is done -/
def rD (δ : Nat → Int32) (l : List Nat) (μ : Nat → Nat → Int32) (i nc : Nat) : Prop := (∀ j, j < 512 → δ j = μ 22 (600 * i + j)) ∧ (∀ j, nc ≤ j → j < 600 → μ 22 (600 * i + j) = 0) ∧ l.Nodup ∧ (∀ x, x ∈ l ↔ x < nc ∧ ¬ μ 22 (600 * i + x) = 0)
theorem rD_row {δ : Nat → Int32} {l : List Nat} {μ μ' : Nat → Nat → Int32} {i nc : Nat} (h : rD δ l μ i nc) (h22 : μ' 22 = μ 22) : rD δ l μ' i nc := by
  unfold rD
  rw [h22]
  exact h
theorem rD_do {δ : Nat → Int32} {l : List Nat} {μ : Nat → Nat → Int32} {i nc j : Nat} (h : rD δ l μ i nc) (hj : j < nc) (hn : nc ≤ 512) (hd : δ j = 0) : rD (upd δ j 1) (l ++ [j]) (va_up μ 22 (upd (μ 22) (600 * i + j) 1)) i nc := by
  obtain ⟨h1, h2, h3, h4⟩ := h
  have h0 : μ 22 (600 * i + j) = 0 := by rw [← h1 j (by omega)]; exact hd
  have hnl : j ∉ l := fun z => ((h4 j).mp z).2 h0
  refine ⟨fun k hk => ?_, fun k hk hk2 => ?_, ?_, fun x => ?_⟩
  · show upd δ j 1 k = upd (μ 22) (600 * i + j) 1 (600 * i + k)
    by_cases e : k = j
    · rw [e, upd_same, upd_same]
    · rw [upd_ne _ _ e, upd_ne _ _ (by omega)]; exact h1 k hk
  · show upd (μ 22) (600 * i + j) 1 (600 * i + k) = 0
    rw [upd_ne _ _ (by omega)]; exact h2 k hk hk2
  · rw [List.nodup_append]
    refine ⟨h3, by simp, fun a ha b hb => ?_⟩
    rw [List.mem_singleton] at hb
    subst hb
    exact fun e => hnl (e ▸ ha)
  · show x ∈ l ++ [j] ↔ x < nc ∧ ¬ upd (μ 22) (600 * i + j) 1 (600 * i + x) = 0
    rw [List.mem_append, List.mem_singleton]
    by_cases e : x = j
    · subst e
      rw [upd_same]
      exact ⟨fun _ => ⟨hj, by decide⟩, fun _ => Or.inr rfl⟩
    · rw [upd_ne _ _ (by omega)]
      constructor
      · rintro (z | z)
        · exact (h4 x).mp z
        · exact absurd z e
      · exact fun z => Or.inl ((h4 x).mpr z)
theorem rD_oth {δ : Nat → Int32} {l : List Nat} {μ : Nat → Nat → Int32} {i k nc j : Nat} (h : rD δ l μ k nc) (hk : k ≠ i) (hj : j < 512) (hn : nc ≤ 512) : rD δ l (va_up μ 22 (upd (μ 22) (600 * i + j) 1)) k nc := by
  obtain ⟨h1, h2, h3, h4⟩ := h
  refine ⟨fun a ha => ?_, fun a ha hb => ?_, h3, fun x => ?_⟩
  · show δ a = upd (μ 22) (600 * i + j) 1 (600 * k + a)
    rw [upd_ne _ _ (by omega)]; exact h1 a ha
  · show upd (μ 22) (600 * i + j) 1 (600 * k + a) = 0
    rw [upd_ne _ _ (by omega)]; exact h2 a ha hb
  · show x ∈ l ↔ x < nc ∧ ¬ upd (μ 22) (600 * i + j) 1 (600 * k + x) = 0
    by_cases hx : x < nc
    · rw [upd_ne _ _ (by omega)]; exact h4 x
    · exact ⟨fun z => absurd ((h4 x).mp z).1 hx, fun z => absurd z.1 hx⟩
theorem rD_new {δ : Nat → Int32} {l : List Nat} {μ : Nat → Nat → Int32} {i nc : Nat} (h : rD δ l μ i nc) (hn : nc < 600) : rD δ l μ i (nc + 1) := by
  obtain ⟨h1, h2, h3, h4⟩ := h
  refine ⟨h1, fun j hj hj2 => h2 j (by omega) hj2, h3, fun x => ?_⟩
  rw [h4 x]
  constructor
  · exact fun z => ⟨by omega, z.2⟩
  · intro z
    refine ⟨?_, z.2⟩
    by_cases e : x = nc
    · subst e; exact absurd (h2 x (Nat.le_refl _) hn) z.2
    · omega
/-- the number of acts done, as the reference counts them -/
theorem rD_cnt {δ : Nat → Int32} {l : List Nat} {μ : Nat → Nat → Int32} {i nc : Nat} (h : rD δ l μ i nc) : ∀ n, n ≤ nc → mKnR μ 22 i 600 n = nI (l.filter (fun x => decide (x < n))).length
  | 0, _ => by
    have : l.filter (fun x => decide (x < 0)) = [] := List.filter_eq_nil_iff.mpr (by simp)
    rw [this]
    rfl
  | n + 1, hn => by
    have ih := rD_cnt h n (by omega)
    rw [mKnR, ih]
    have hf : (l.filter (fun x => decide (x < n + 1))).length = (l.filter (fun x => decide (x < n))).length + (if μ 22 (600 * i + n) = 0 then 0 else 1) := by
      have h1 : (l.filter (fun x => decide (x < n + 1))).length = (l.filter (fun x => decide (x < n))).length + l.count n := by
        clear h ih hn
        induction l with
        | nil => rfl
        | cons a t iht =>
          rw [List.filter_cons, List.filter_cons, List.count_cons]
          by_cases c1 : a < n
          · have c2 : a < n + 1 := by omega
            have c3 : ¬ a = n := by omega
            simp [c1, c2, c3]; omega
          · by_cases c3 : a = n
            · subst c3; simp; omega
            · have c2 : ¬ a < n + 1 := by omega
              simp [c1, c2, c3]; omega
      rw [h1]
      congr 1
      by_cases c : μ 22 (600 * i + n) = 0
      · rw [if_pos c]
        exact List.count_eq_zero.mpr (fun z => ((h.2.2.2 n).mp z).2 c)
      · rw [if_neg c]
        exact Nat.le_antisymm (List.nodup_iff_count.mp h.2.2.1 n) (List.count_pos_iff.mpr ((h.2.2.2 n).mpr ⟨by omega, c⟩))
    rw [hf]
    by_cases c : μ 22 (600 * i + n) = 0
    · rw [if_pos c, if_pos c]
      simp
    · rw [if_neg c, if_neg c]
      exact nI_1 _
theorem rD_len {δ : Nat → Int32} {l : List Nat} {μ : Nat → Nat → Int32} {i nc : Nat} (h : rD δ l μ i nc) : mKnR μ 22 i 600 nc = nI l.length := by
  rw [rD_cnt h nc (Nat.le_refl _)]
  congr 2
  exact List.filter_eq_self.mpr (fun x hx => by simp [((h.2.2.2 x).mp hx).1])
