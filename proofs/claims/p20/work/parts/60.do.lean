/-! an act is done at a server: the server's own part -/
theorem kLearn_hi (κ : Nat → Nat → Int32) {k p q : Nat} {td : Int32} (hk : 8 ≤ k) : kLearn κ k p q td = κ := by
  rw [kLearn, if_neg (by omega), if_neg (by omega), if_neg (by omega), if_neg (by omega), if_neg (by omega), if_neg (by omega), if_neg (by omega), if_neg (by omega)]
theorem zLearn_lo (ζ : Nat → Nat → Int64) {k p q : Nat} (hk : k < 8) : zLearn ζ k p q = ζ := by
  rw [zLearn, if_neg (by omega), if_neg (by omega), if_neg (by omega)]
def qS (κ : Nat → Nat → Int32) (ζ : Nat → Nat → Int64) (δ : Nat → Int32) (l : List Nat) (fk fp fa : Nat → Nat) (ft : Nat → Int32) (np nc : Nat) (μ : Nat → Nat → Int32) (i : Nat) : Prop := r4 κ μ i ∧ r5 ζ μ i ∧ I4 μ i np ∧ rD δ l μ i nc ∧ kEq (kRep fk fp fa ft (fun _ _ => 0) l) κ ∧ zEq (zRep fk fp fa (fun _ _ => 0) l) ζ
def eqR (μ μ' : Nat → Nat → Int32) : Prop := μ' 3 = μ 3 ∧ μ' 4 = μ 4 ∧ μ' 5 = μ 5 ∧ μ' 6 = μ 6 ∧ μ' 7 = μ 7 ∧ μ' 8 = μ 8 ∧ μ' 10 = μ 10 ∧ μ' 22 = μ 22
theorem qS_rows {κ : Nat → Nat → Int32} {ζ : Nat → Nat → Int64} {δ : Nat → Int32} {l : List Nat} {fk fp fa : Nat → Nat} {ft : Nat → Int32} {np nc : Nat} {μ μ' : Nat → Nat → Int32} {i : Nat} (h : qS κ ζ δ l fk fp fa ft np nc μ i) (e : eqR μ μ') : qS κ ζ δ l fk fp fa ft np nc μ' i := by
  obtain ⟨h4, h5, hI, hD, hk, hz⟩ := h
  obtain ⟨e3, e4, e5, e6, e7, e8, e10, e22⟩ := e
  exact ⟨r4_s4 h4 (s4_rows e3 e4 e5 e6), r5_rows h5 e7 e8 e10, I4_s4 hI (s4_rows e3 e4 e5 e6), rD_row hD e22, hk, hz⟩
/-- an act's facts -/
def aF (fk fp fa : Nat → Nat) (ft : Nat → Int32) (np nn : Nat) (μ : Nat → Nat → Int32) (a : Nat) : Prop := (μ 18 a = nI (fk a) ∧ μ 19 a = nI (fp a) ∧ μ 20 a = nI (fa a) ∧ μ 21 a = ft a) ∧ fk a < 11 ∧ fp a < np ∧ (fk a < 8 → fa a < np) ∧ (8 ≤ fk a → fa a < nn) ∧ ∀ f, f < 10 → kHas (ft a) f = true → f < np
def mW (μ : Nat → Nat → Int32) (i a : Nat) : Nat → Nat → Int32 := va_up μ 22 (upd (μ 22) (600 * i + a) 1)
/-- what an act does to the rows but 9, 23, 25 -/
def mX (μ : Nat → Nat → Int32) (i k p q : Nat) (td : Int32) : Nat → Nat → Int32 := if 8 ≤ k then (if k = 8 then va_up μ 7 (upd (μ 7) (50 * i + q) (bI (decide (μ 8 (50 * i + q) = 0)))) else if k = 9 then va_up (va_up μ 7 (upd (μ 7) (50 * i + q) 0)) 8 (upd (μ 8) (50 * i + q) 1) else va_up (va_up μ 10 (upd (μ 10) (500 * i + 50 * p + q) 1)) 7 (upd (μ 7) (50 * i + q) (bI (decide (μ 8 (50 * i + q) = 0))))) else mDo1 μ i k p q td
theorem mDo_X {fk fp fa : Nat → Nat} {ft : Nat → Int32} {np nn : Nat} {μ : Nat → Nat → Int32} {a : Nat} (h : aF fk fp fa ft np nn μ a) (hnp : np ≤ 10) (hnn : nn ≤ 50) (i : Nat) {r : Nat} (h9 : r ≠ 9) (h23 : r ≠ 23) (h25 : r ≠ 25) : mDo μ i a r = mX (mW μ i a) i (fk a) (fp a) (fa a) (ft a) r := by
  obtain ⟨⟨e1, e2, e3, e4⟩, b1, b2, b3, b4, b5⟩ := h
  have hfa : fa a < 50 := (Nat.lt_or_ge (fk a) 8).elim (fun c => Nat.lt_of_lt_of_le (b3 c) (by omega)) (fun c => Nat.lt_of_lt_of_le (b4 c) hnn)
  have t1 : tn (μ 18 a) = fk a := by rw [e1, tn_nI (by omega)]
  have t2 : tn (μ 19 a) = fp a := by rw [e2, tn_nI (by omega)]
  have t3 : tn (μ 20 a) = fa a := by rw [e3, tn_nI (by omega)]
  have w : ∀ k, k ≠ 22 → mW μ i a k = μ k := fun k hk => va_up_ne _ _ hk
  rw [mDo, t1, t2, t3, e4]
  show (if 8 ≤ fk a then mDoP (mW μ i a) i a else mDo1 (mW μ i a) i (fk a) (fp a) (fa a) (ft a)) r = _
  rw [mX]
  by_cases c : 8 ≤ fk a
  · rw [if_pos c, if_pos c, mDoP, w 18 (by decide), w 20 (by decide), w 19 (by decide), t1, t2, t3]
    by_cases c8 : fk a = 8
    · rw [if_pos c8, if_pos c8, mSdo_k _ _ _ _ h9 h23 h25]
    · rw [if_neg c8, if_neg c8]
      by_cases c9 : fk a = 9
      · rw [if_pos c9, if_pos c9]
        split
        · rfl
        · rw [mSnd_k _ _ _ h23 h25]
      · rw [if_neg c9, if_neg c9]
  · rw [if_neg c, if_neg c]
theorem eqR_of {μ μ' : Nat → Nat → Int32} (h : ∀ r, r ≠ 9 → r ≠ 23 → r ≠ 25 → μ' r = μ r) : eqR μ μ' := ⟨h 3 (by decide) (by decide) (by decide), h 4 (by decide) (by decide) (by decide), h 5 (by decide) (by decide) (by decide), h 6 (by decide) (by decide) (by decide), h 7 (by decide) (by decide) (by decide), h 8 (by decide) (by decide) (by decide), h 10 (by decide) (by decide) (by decide), h 22 (by decide) (by decide) (by decide)⟩
theorem qS_do {κ : Nat → Nat → Int32} {ζ : Nat → Nat → Int64} {δ : Nat → Int32} {l : List Nat} {fk fp fa : Nat → Nat} {ft : Nat → Int32} {np nc nn : Nat} {μ : Nat → Nat → Int32} {i a : Nat} (h : qS κ ζ δ l fk fp fa ft np nc μ i) (hF : aF fk fp fa ft np nn μ a) (hl : ∀ x ∈ l, fk x < 11 ∧ fp x < 10 ∧ (fk x < 8 → fa x < 10)) (hnp : np ≤ 10) (hp0 : μ 1 0 = nI np) (hnn : nn ≤ 50) (ha : a < nc) (hnc : nc ≤ 512) (hd : δ a = 0) : qS (kLearn κ (fk a) (fp a) (fa a) (ft a)) (zLearn ζ (fk a) (fp a) (fa a)) (upd δ a 1) (l ++ [a]) fk fp fa ft np nc (mDo μ i a) i := by
  refine qS_rows (μ := mX (mW μ i a) i (fk a) (fp a) (fa a) (ft a)) ?_ (eqR_of fun r h9 h23 h25 => mDo_X hF hnp hnn i h9 h23 h25)
  obtain ⟨-, b1, b2, b3, b4, b5⟩ := hF
  obtain ⟨h4, h5, hI, hD, hk, hz⟩ := h
  have hp : fp a < 10 := Nat.lt_of_lt_of_le b2 hnp
  have w3 : s4 μ (mW μ i a) i := s4_rows rfl rfl rfl rfl
  have hD2 : rD (upd δ a 1) (l ++ [a]) (mW μ i a) i nc := rD_do hD ha hnc hd
  have hk2 : kEq (kRep fk fp fa ft (fun _ _ => 0) (l ++ [a])) (kLearn κ (fk a) (fp a) (fa a) (ft a)) := by
    rw [kRep_app]
    exact kEq_learn hk b1 hp (fun c => Nat.lt_of_lt_of_le (b3 c) hnp)
  have hz2 : zEq (zRep fk fp fa (fun _ _ => 0) (l ++ [a])) (zLearn ζ (fk a) (fp a) (fa a)) := by
    rw [zRep_app]
    exact zEq_learn hz hp
  have h1 : mW μ i a 1 0 = nI np := hp0
  have ht : tn (mW μ i a 1 0) = np := by rw [h1, tn_nI (by omega)]
  have g4 := r4_s4 h4 w3
  have gI := I4_s4 hI w3
  have g5 : r5 ζ (mW μ i a) i := r5_rows h5 rfl rfl rfl
  rw [mX]
  by_cases c : 8 ≤ fk a
  · have hq : fa a < 50 := Nat.lt_of_lt_of_le (b4 c) hnn
    rw [kLearn_hi κ c] at hk2 ⊢
    rw [if_pos c]
    by_cases c8 : fk a = 8
    · rw [if_pos c8]
      rw [c8] at hz2 ⊢
      exact ⟨r4_s4 g4 (s4_rows rfl rfl rfl rfl), r5_8 g5 hq, I4_s4 gI (s4_rows rfl rfl rfl rfl), rD_row hD2 rfl, hk2, hz2⟩
    · rw [if_neg c8]
      by_cases c9 : fk a = 9
      · rw [if_pos c9]
        rw [c9] at hz2 ⊢
        exact ⟨r4_s4 g4 (s4_rows rfl rfl rfl rfl), r5_9 g5 hq, I4_s4 gI (s4_rows rfl rfl rfl rfl), rD_row hD2 rfl, hk2, hz2⟩
      · rw [if_neg c9]
        have c10 : fk a = 10 := by omega
        rw [c10] at hz2 ⊢
        exact ⟨r4_s4 g4 (s4_rows rfl rfl rfl rfl), r5_10 g5 hp hq, I4_s4 gI (s4_rows rfl rfl rfl rfl), rD_row hD2 rfl, hk2, hz2⟩
  · have c' : fk a < 8 := by omega
    have hq : fa a < 10 := Nat.lt_of_lt_of_le (b3 c') hnp
    rw [if_neg c, zLearn_lo ζ c']
    rw [zLearn_lo ζ c'] at hz2
    have k7 : ∀ r, r ≠ 3 → r ≠ 4 → r ≠ 5 → r ≠ 6 → mDo1 (mW μ i a) i (fk a) (fp a) (fa a) (ft a) r = mW μ i a r := fun r h3 h4 h5 h6 => mDo1_k _ _ _ _ _ _ h3 h4 h5 h6
    exact ⟨r4_do g4 c' hp hq (I4_apart gI) ht hnp b5, r5_rows g5 (k7 7 (by decide) (by decide) (by decide) (by decide)) (k7 8 (by decide) (by decide) (by decide) (by decide)) (k7 10 (by decide) (by decide) (by decide) (by decide)), I4_do gI b2 (b3 c') hnp ht, rD_row hD2 (k7 22 (by decide) (by decide) (by decide) (by decide)), hk2, hz2⟩
theorem qS_oth {κ : Nat → Nat → Int32} {ζ : Nat → Nat → Int64} {δ : Nat → Int32} {l : List Nat} {fk fp fa : Nat → Nat} {ft : Nat → Int32} {np nc nn : Nat} {μ : Nat → Nat → Int32} {i j a : Nat} (h : qS κ ζ δ l fk fp fa ft np nc μ j) (hF : aF fk fp fa ft np nn μ a) (hj : j ≠ i) (hnp : np ≤ 10) (hp0 : μ 1 0 = nI np) (hnn : nn ≤ 50) (ha : a < nc) (hnc : nc ≤ 512) : qS κ ζ δ l fk fp fa ft np nc (mDo μ i a) j := by
  refine qS_rows (μ := mX (mW μ i a) i (fk a) (fp a) (fa a) (ft a)) ?_ (eqR_of fun r h9 h23 h25 => mDo_X hF hnp hnn i h9 h23 h25)
  obtain ⟨-, b1, b2, b3, b4, b5⟩ := hF
  obtain ⟨h4, h5, hI, hD, hk, hz⟩ := h
  have hp : fp a < 10 := Nat.lt_of_lt_of_le b2 hnp
  have w3 : s4 μ (mW μ i a) j := s4_rows rfl rfl rfl rfl
  have hD2 : rD δ l (mW μ i a) j nc := rD_oth hD hj (Nat.lt_of_lt_of_le ha hnc) hnc
  have h1 : mW μ i a 1 0 = nI np := hp0
  have ht : tn (mW μ i a 1 0) = np := by rw [h1, tn_nI (by omega)]
  have g4 := r4_s4 h4 w3
  have gI := I4_s4 hI w3
  have g5 : r5 ζ (mW μ i a) j := r5_rows h5 rfl rfl rfl
  rw [mX]
  by_cases c : 8 ≤ fk a
  · have hq : fa a < 50 := Nat.lt_of_lt_of_le (b4 c) hnn
    rw [if_pos c]
    split
    · exact ⟨r4_s4 g4 (s4_rows rfl rfl rfl rfl), r5_s5 g5 (s5_7 _ hj hq), I4_s4 gI (s4_rows rfl rfl rfl rfl), rD_row hD2 rfl, hk, hz⟩
    · split
      · exact ⟨r4_s4 g4 (s4_rows rfl rfl rfl rfl), r5_s5 g5 (s5_tr (s5_7 _ hj hq) (s5_8 _ hj hq)), I4_s4 gI (s4_rows rfl rfl rfl rfl), rD_row hD2 rfl, hk, hz⟩
      · exact ⟨r4_s4 g4 (s4_rows rfl rfl rfl rfl), r5_s5 g5 (s5_tr (s5_10 _ hj hp hq) (s5_7 _ hj hq)), I4_s4 gI (s4_rows rfl rfl rfl rfl), rD_row hD2 rfl, hk, hz⟩
  · have c' : fk a < 8 := by omega
    have hq : fa a < 10 := Nat.lt_of_lt_of_le (b3 c') hnp
    rw [if_neg c]
    have k7 : ∀ r, r ≠ 3 → r ≠ 4 → r ≠ 5 → r ≠ 6 → mDo1 (mW μ i a) i (fk a) (fp a) (fa a) (ft a) r = mW μ i a r := fun r h3 h4 h5 h6 => mDo1_k _ _ _ _ _ _ h3 h4 h5 h6
    have s := s4_do (μ := mW μ i a) (i := i) (j := j) (k := fk a) (p := fp a) (q := fa a) (td := ft a) hj hp hq (by rw [ht]; exact hnp)
    exact ⟨r4_s4 g4 s, r5_rows g5 (k7 7 (by decide) (by decide) (by decide) (by decide)) (k7 8 (by decide) (by decide) (by decide) (by decide)) (k7 10 (by decide) (by decide) (by decide) (by decide)), I4_s4 gI s, rD_row hD2 (k7 22 (by decide) (by decide) (by decide) (by decide)), hk, hz⟩
