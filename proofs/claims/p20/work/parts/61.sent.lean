/-! what is sent on; the posts -/
theorem mSnd_0 (μ : Nat → Nat → Int32) (act : Int32) : ∀ s, s ≤ 4 → mSnd μ act 0 s = μ
  | 0, _ => rfl
  | s + 1, h => by
    rw [mSnd, if_neg, mSnd_0 μ act s (by omega)]
    rw [← kHas_1, kHas_0 (by omega)]
    decide
theorem sPk_0 (P : Nat → List Nat) (y : Nat) : ∀ s, s ≤ 4 → sPk P y 0 s = P
  | 0, _ => rfl
  | s + 1, h => by
    rw [sPk, if_neg, sPk_0 P y s (by omega)]
    rw [kHas_0 (by omega)]
    decide
theorem sPk_ln (P : Nat → List Nat) (y : Nat) (sv : Int32) (i : Nat) : ∀ s, (P i).length ≤ (sPk P y sv s i).length ∧ (sPk P y sv s i).length ≤ (P i).length + (if i < s then 1 else 0) ∧ (∀ x, x < (P i).length → (sPk P y sv s i)[x]? = (P i)[x]?)
  | 0 => ⟨Nat.le_refl _, Nat.le_refl _, fun _ _ => rfl⟩
  | s + 1 => by
    obtain ⟨h1, h2, h3⟩ := sPk_ln P y sv i s
    rw [sPk]
    split
    · by_cases c : i = s
      · subst c
        rw [va_up, if_pos rfl]
        rw [if_neg (Nat.lt_irrefl _)] at h2
        have e : (sPk P y sv i i).length = (P i).length := by omega
        refine ⟨by rw [List.length_append]; omega, by rw [List.length_append, if_pos (by omega)]; simp only [List.length_singleton]; omega, fun x hx => ?_⟩
        rw [List.getElem?_append_left (by omega)]
        exact h3 x hx
      · rw [va_up_ne _ _ c]
        refine ⟨h1, ?_, h3⟩
        by_cases d : i < s
        · rw [if_pos (by omega)]; rw [if_pos d] at h2; exact h2
        · rw [if_neg (by omega)]; rw [if_neg d] at h2; exact h2
    · refine ⟨h1, ?_, h3⟩
      by_cases d : i < s
      · rw [if_pos (by omega)]; rw [if_pos d] at h2; exact h2
      · rw [if_neg d] at h2; omega
def q0 (np nc nn : Nat) (χ : Nat → Nat) (μ : Nat → Nat → Int32) : Prop := (μ 1 0 = nI np ∧ np ≤ 10) ∧ (∀ j, j < 10 → μ 2 j = nI (χ j) ∧ χ j < 4) ∧ (μ 17 0 = nI nc ∧ nc ≤ 512) ∧ (μ 11 0 = nI nn ∧ nn ≤ 50)
def q2 (np nn : Nat) (nau : Nat → Nat) (nkd nna nth : Nat → Int32) (μ : Nat → Nat → Int32) : Prop := ∀ j, j < nn → μ 12 j = nI (nau j) ∧ nau j < np ∧ μ 13 j = nkd j ∧ μ 14 j = nna j ∧ ((nth j = -1 ∧ μ 15 j = -1) ∨ ∃ r, r < nn ∧ μ 15 j = nI r ∧ nth j = nI (nau r))
/-- a public reply whose thread lives at s -/
def qC (χ : Nat → Nat) (nkd nth : Nat → Int32) (j s : Nat) : Prop := nkd j = 0 ∧ ∃ t, t < 10 ∧ nth j = nI t ∧ χ t = s
def q3 (nn : Nat) (χ nau : Nat → Nat) (nkd nth nwe nso : Nat → Int32) (μ : Nat → Nat → Int32) : Prop := ∀ j, j < nn → (∀ s, s < 4 → ¬ qC χ nkd nth j s → μ 9 (50 * s + j) = 0) ∧ nwe j = μ 16 j ||| μ 9 (50 * χ (nau j) + j) ∧ (nth j = -1 → nso j = 0) ∧ ∀ t, t < 10 → nth j = nI t → nso j = if χ t = χ (nau j) then 0 else μ 9 (50 * χ t + j)
def q4 (nc nn : Nat) (fk fa : Nat → Nat) (δ : Nat → Nat → Int32) (μ : Nat → Nat → Int32) : Prop := (∀ s a, s < 4 → a < nc → fk a = 8 → δ s a = 0 → μ 9 (50 * s + fa a) = 0) ∧ (∀ s j, s < 4 → nn ≤ j → j < 50 → μ 9 (50 * s + j) = 0) ∧ ∀ a b, a < nc → b < nc → fk a = 8 → fk b = 8 → fa a = fa b → a = b
def q6 (nc N : Nat) (pI : Nat → List Nat) (dl : Nat → Nat) (δ : Nat → Nat → Int32) (μ : Nat → Nat → Int32) : Prop := rP pI μ nc ∧ (∀ i, i < 4 → μ 24 i = nI (dl i) ∧ dl i ≤ (pI i).length ∧ (pI i).length ≤ N) ∧ ∀ j, j < 4800 → isN (μ 23 j) 600
theorem q6_rows {nc N : Nat} {pI : Nat → List Nat} {dl : Nat → Nat} {δ : Nat → Nat → Int32} {μ μ' : Nat → Nat → Int32} (h : q6 nc N pI dl δ μ) (e23 : μ' 23 = μ 23) (e24 : μ' 24 = μ 24) (e25 : μ' 25 = μ 25) : q6 nc N pI dl δ μ' := by
  refine ⟨rP_rows h.1 e23 e25, ?_, ?_⟩
  · rw [e24]; exact h.2.1
  · rw [e23]; exact h.2.2
theorem q6_snd {nc N a : Nat} {pI : Nat → List Nat} {dl : Nat → Nat} {δ : Nat → Nat → Int32} {μ : Nat → Nat → Int32} (sv : Int32) (h : q6 nc N pI dl δ μ) (ha : a < nc) (hnc : nc ≤ 512) (hN : N < 1200) : q6 nc (N + 1) (sPk pI a sv 4) dl δ (mSnd μ (nI a) sv 4) := by
  obtain ⟨h1, h2, h3⟩ := h
  refine ⟨rP_snd h1 (fun i hi => (h2 i hi).2.2) hN ha 4 (by omega), fun i hi => ?_, pk_isN h3 (by omega) 4⟩
  obtain ⟨g1, g2, g3⟩ := h2 i hi
  obtain ⟨l1, l2, l3⟩ := sPk_ln pI a sv i 4
  rw [if_pos hi] at l2
  exact ⟨by rw [mSnd_k μ (nI a) sv (k := 24) (by decide) (by decide) 4]; exact g1, by omega, by omega⟩
theorem q6_dlt {nc N : Nat} {pI : Nat → List Nat} {dl : Nat → Nat} {δ : Nat → Nat → Int32} {μ : Nat → Nat → Int32} {i a : Nat} (h : q6 nc N pI dl δ μ) : q6 nc N pI dl (va_up δ i (upd (δ i) a 1)) μ := h
/-- what has been delivered has been done -/
def q7 (pI : Nat → List Nat) (dl : Nat → Nat) (δ : Nat → Nat → Int32) : Prop := ∀ i, i < 4 → ∀ x a, x < dl i → (pI i)[x]? = some a → ¬ δ i a = 0
theorem q7_dlt {pI : Nat → List Nat} {dl : Nat → Nat} {δ : Nat → Nat → Int32} {i a : Nat} (h : q7 pI dl δ) : q7 pI dl (va_up δ i (upd (δ i) a 1)) := fun j hj x b hx hb => by
  by_cases c : j = i
  · subst c
    rw [va_up_self]
    by_cases d : b = a
    · rw [d, upd_same]; decide
    · rw [upd_ne _ _ d]; exact h j hj x b hx hb
  · rw [va_up_ne _ _ c]; exact h j hj x b hx hb
theorem q7_snd {pI : Nat → List Nat} {dl : Nat → Nat} {δ : Nat → Nat → Int32} {a : Nat} (sv : Int32) (h : q7 pI dl δ) (hd : ∀ i, i < 4 → dl i ≤ (pI i).length) : q7 (sPk pI a sv 4) dl δ := fun i hi x b hx hb => h i hi x b hx (by
  rw [← (sPk_ln pI a sv i 4).2.2 x (Nat.lt_of_lt_of_le hx (hd i hi))]
  exact hb)
theorem q7_dl {pI : Nat → List Nat} {dl : Nat → Nat} {δ : Nat → Nat → Int32} {s a : Nat} (h : q7 pI dl δ) (ha : (pI s)[dl s]? = some a) (hd : ¬ δ s a = 0) : q7 pI (va_up dl s (dl s + 1)) δ := fun i hi x b hx hb => by
  by_cases c : i = s
  · subst c
    rw [va_up_self] at hx
    by_cases e : x = dl i
    · rw [e, ha] at hb
      rw [← Option.some.inj hb]
      exact hd
    · exact h i hi x b (by omega) hb
  · rw [va_up_ne _ _ c] at hx
    exact h i hi x b hx hb
theorem q6_mono {nc N M : Nat} {pI : Nat → List Nat} {dl : Nat → Nat} {δ : Nat → Nat → Int32} {μ : Nat → Nat → Int32} (h : q6 nc N pI dl δ μ) (hM : N ≤ M) : q6 nc M pI dl δ μ := ⟨h.1, fun i hi => ⟨(h.2.1 i hi).1, (h.2.1 i hi).2.1, Nat.le_trans (h.2.1 i hi).2.2 hM⟩, h.2.2⟩
theorem and_not0 (x : Int32) : x &&& (0 ^^^ (-1)) = x := kHas_ext (fun q hq => by rw [kHas_andn _ _ hq, kHas_0 hq]; simp)
theorem or_0 (x : Int32) : x ||| 0 = x := kHas_ext (fun q hq => by rw [kHas_or _ _ hq, kHas_0 hq]; simp)
/-- the set to which a public reply is sent on -/
theorem mSet_r {κi : Nat → Nat → Int32} {μ : Nat → Nat → Int32} {np nc nn : Nat} {χ nau : Nat → Nat} {nkd nna nth nwe nso : Nat → Int32} {i j t : Nat} (h0 : q0 np nc nn χ μ) (h2 : q2 np nn nau nkd nna nth μ) (h3 : q3 nn χ nau nkd nth nwe nso μ) (h4 : r4 κi μ i) (hj : j < nn) (ht : t < 10) (e : nth j = nI t) (hz : μ 9 (50 * i + j) = 0) : mSet μ i j = rTo2 χ κi t i (nau j) np (nwe j) := by
  obtain ⟨⟨n1, n2⟩, n3, n4, n5⟩ := h0
  obtain ⟨p1, p2, p3, p4, p5⟩ := h2 j hj
  rcases p5 with ⟨p6, -⟩ | ⟨r, hr, p6, p7⟩
  · rw [e] at p6
    exfalso
    have h9 := congrArg Int32.toInt p6
    rw [nI_toInt (by omega), show (-1 : Int32).toInt = -1 from by decide] at h9
    omega
  · have hau : nau j < 10 := by omega
    have er : nau r = t := by
      have := p7.symm.trans e
      have h9 := congrArg tn this
      rw [tn_nI (by have := (h2 r hr).2.1; omega), tn_nI (by omega)] at h9
      exact h9
    have e1 : tn (μ 15 j) = r := by rw [p6, tn_nI (by omega)]
    have e2 : tn (μ 12 r) = t := by rw [(h2 r hr).1, er, tn_nI (by omega)]
    have e3 : tn (μ 12 j) = nau j := by rw [p1, tn_nI (by omega)]
    have e4 : tn (μ 2 (nau j)) = χ (nau j) := by rw [(n3 _ hau).1, tn_nI (by have := (n3 _ hau).2; omega)]
    rw [mSet, e1, e2, e3, e4, mSrv_ho (np := np) h4 ht (fun k hk => (n3 k hk).1) (by rw [n1, tn_nI (by omega)]) n2, rTo2, rTo]
    by_cases c : χ (nau j) = i
    · rw [if_pos c, if_pos c, (h3 j hj).2.1, c, hz, or_0]
      rfl
    · rw [if_neg c, if_neg c, and_not0]
      rfl
