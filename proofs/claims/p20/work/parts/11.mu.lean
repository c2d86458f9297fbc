/-! what a state of the reference is: by the slots of its fields k: μ k j, the j-th of the array k (of a number: j = 0) -/
def tn (x : Int32) : Nat := x.toNatClampNeg
def isN (x : Int32) (n : Nat) : Prop := x = nI (tn x) ∧ tn x < n
theorem isN_nI {k n : Nat} (h : k < n) (hn : n ≤ 2 ^ 31) : isN (nI k) n := by
  have e : tn (nI k) = k := nI_clamp (by omega)
  exact ⟨by rw [e], by rw [e]; exact h⟩
theorem tn_nI {k : Nat} (h : k < 2 ^ 31) : tn (nI k) = k := nI_clamp h
theorem isN_mono {x : Int32} {n k : Nat} (h : isN x n) (hk : n ≤ k) : isN x k := ⟨h.1, Nat.lt_of_lt_of_le h.2 hk⟩
theorem isN_of {x : Int32} {n : Nat} (h0 : 0 ≤ x) (h : x < nI n) (hn : n < 2 ^ 31) : isN x n := by
  have h0' : ¬ x < 0 := by rw [Int32.lt_iff_toInt_lt]; rw [Int32.le_iff_toInt_le] at h0; omega
  obtain ⟨j, hj, rfl⟩ := nI_of h0'
  exact isN_nI ((nI_ltI hj hn).mp h) (by omega)
def mIn (v lo hi : Int32) : Bool := decide (lo ≤ v) && decide (v ≤ hi)
theorem mIn_n {x v : Int32} {k : Nat} (hx : isN x (k + 1)) (hk : k < 2 ^ 30) (h : mIn v 0 (x - 1) = true) : isN v k ∧ tn v < tn x := by
  simp only [mIn, Bool.and_eq_true, decide_eq_true_eq] at h
  obtain ⟨h0, h1⟩ := h
  have h0' : ¬ v < 0 := by rw [Int32.lt_iff_toInt_lt]; rw [Int32.le_iff_toInt_le] at h0; omega
  obtain ⟨j, hj, rfl⟩ := nI_of h0'
  have hb := hx.2
  have e : tn (nI j) = j := tn_nI hj
  have hlt : j < tn x := by
    rw [hx.1] at h1
    rcases Nat.eq_zero_or_pos (tn x) with z | z
    · rw [z] at h1
      exfalso
      have h2 : (nI j).toInt ≤ (nI 0 - 1).toInt := Int32.le_iff_toInt_le.mp h1
      rw [nI_toInt hj, show (nI 0 - 1 : Int32).toInt = -1 from by decide] at h2
      omega
    · rw [show (1 : Int32) = nI 1 from rfl, pk_sub z] at h1
      have := (nI_leI hj (by omega)).mp h1
      omega
  exact ⟨⟨by rw [e], by rw [e]; omega⟩, by rw [e]; exact hlt⟩
theorem mIn_3 {v : Int32} (h : mIn v 0 3 = true) : isN v 4 := by
  have h4 : isN (4 : Int32) 5 := isN_nI (k := 4) (by omega) (by omega)
  exact (mIn_n h4 (by omega) (by rw [show (4 - 1 : Int32) = 3 from by decide]; exact h)).1
theorem mIn_5 {v : Int32} (h : mIn v 0 5 = true) : isN v 6 := by
  have h4 : isN (6 : Int32) 7 := isN_nI (k := 6) (by omega) (by omega)
  exact (mIn_n h4 (by omega) (by rw [show (6 - 1 : Int32) = 5 from by decide]; exact h)).1
def mIsA (μ : Nat → Nat → Int32) (s p q : Nat) : Bool := !decide (μ 5 (100 * s + 10 * p + q) = 0) || !decide (μ 5 (100 * s + 10 * q + p) = 0)
theorem mIsA_up (μ : Nat → Nat → Int32) {k : Nat} (v : Nat → Int32) (s p q : Nat) (h : k ≠ 5) : mIsA (va_up μ k v) s p q = mIsA μ s p q := by simp [mIsA, va_up, Ne.symm h]
def mFol (μ : Nat → Nat → Int32) (s p q : Nat) : Nat → Nat → Int32 := va_up (va_up μ 4 (upd (μ 4) (100 * s + 10 * p + q) 1)) 3 (upd (μ 3) (100 * s + 10 * p + q) 0)
def mPar (μ : Nat → Nat → Int32) (s p q : Nat) : Nat → Nat → Int32 := va_up (va_up μ 4 (upd (μ 4) (100 * s + 10 * p + q) 0)) 3 (upd (μ 3) (100 * s + 10 * p + q) 0)
def mSnd1 (μ : Nat → Nat → Int32) (act : Int32) (s : Nat) : Nat → Nat → Int32 := va_up (va_up μ 23 (upd (μ 23) (1200 * s + tn (μ 25 s)) act)) 25 (upd (μ 25) s (μ 25 s + 1))
def mSnd (μ : Nat → Nat → Int32) (act sv : Int32) : Nat → Nat → Nat → Int32
  | 0 => μ
  | s + 1 => if (sv >>> (nI s &&& 31)) &&& 1 = 1 then mSnd1 (mSnd μ act sv s) act s else mSnd μ act sv s
theorem mSnd_last (μ : Nat → Nat → Int32) (act sv : Int32) {j : Nat} : ∀ i, i ≤ j → mSnd μ act sv i 25 j = μ 25 j
  | 0, _ => rfl
  | i + 1, h => by
    have ih := mSnd_last (j := j) μ act sv i (by omega)
    have e : upd (mSnd μ act sv i 25) i (mSnd μ act sv i 25 i + 1) j = mSnd μ act sv i 25 j := by simp [upd, show ¬ j = i by omega]
    rw [mSnd]
    split
    · exact e.trans ih
    · exact ih
theorem mSnd_k (μ : Nat → Nat → Int32) (act sv : Int32) {k : Nat} (h3 : k ≠ 23) (h4 : k ≠ 25) : ∀ i, mSnd μ act sv i k = μ k
  | 0 => rfl
  | i + 1 => by
    have ih := mSnd_k μ act sv h3 h4 i
    rw [mSnd]
    split
    · rw [mSnd1, va_up_ne _ _ h4, va_up_ne _ _ h3]; exact ih
    · exact ih
def mSvr (μ : Nat → Nat → Int32) (s p : Nat) : Nat → Int32
  | 0 => 0
  | q + 1 => mSvr μ s p q ||| (if μ 4 (100 * s + 10 * q + p) = 0 then 0 else (1 : Int32) <<< (μ 2 q &&& 31))
def mSrv (μ : Nat → Nat → Int32) (s p : Nat) : Int32 := mSvr μ s p (tn (μ 1 0)) &&& (((1 : Int32) <<< (nI s &&& 31)) ^^^ (-1))
def mMov1 (μ : Nat → Nat → Int32) (s p q f : Nat) : Nat → Nat → Int32 := if f = q ∨ mIsA μ s f q = true then va_up μ 4 (upd (μ 4) (100 * s + 10 * f + p) 0) else mFol (va_up μ 4 (upd (μ 4) (100 * s + 10 * f + p) 0)) s f q
def mMov (μ : Nat → Nat → Int32) (s p q : Nat) (all : Int32) : Nat → Nat → Nat → Int32
  | 0 => μ
  | f + 1 => if (all >>> (nI f &&& 31)) &&& 1 = 1 then mMov1 (mMov μ s p q all f) s p q f else mMov μ s p q all f
theorem mMov_k (μ : Nat → Nat → Int32) (s p q : Nat) (all : Int32) {k : Nat} (h3 : k ≠ 3) (h4 : k ≠ 4) : ∀ f, mMov μ s p q all f k = μ k
  | 0 => rfl
  | f + 1 => by
    have ih := mMov_k μ s p q all h3 h4 f
    rw [mMov]
    split
    · rw [mMov1]
      split
      · rw [va_up_ne _ _ h4]; exact ih
      · rw [mFol, va_up_ne _ _ h3, va_up_ne _ _ h4, va_up_ne _ _ h4]; exact ih
    · exact ih
/-- a reply is sent on from s -/
def mSet (μ : Nat → Nat → Int32) (s n : Nat) : Int32 := (mSrv μ s (tn (μ 12 (tn (μ 15 n)))) &&& (((1 : Int32) <<< (nI (tn (μ 2 (tn (μ 12 n)))) &&& 31)) ^^^ (-1))) &&& ((if tn (μ 2 (tn (μ 12 n))) = s then μ 16 n else 0) ^^^ (-1))
def mSdo (μ : Nat → Nat → Int32) (s : Nat) (act : Int32) (n : Nat) : Nat → Nat → Int32 := if ¬ μ 13 n = 0 ∨ μ 15 n < 0 ∨ ¬ tn (μ 2 (tn (μ 12 (tn (μ 15 n))))) = s then μ else mSnd (va_up μ 9 (upd (μ 9) (50 * s + n) (mSet μ s n))) act (mSet μ s n) 4
def mDoP (μ : Nat → Nat → Int32) (s a : Nat) : Nat → Nat → Int32 := if tn (μ 18 a) = 8 then mSdo (va_up μ 7 (upd (μ 7) (50 * s + tn (μ 20 a)) (bI (decide (μ 8 (50 * s + tn (μ 20 a)) = 0))))) s (nI a) (tn (μ 20 a)) else if tn (μ 18 a) = 9 then (if s = tn (μ 2 (tn (μ 12 (tn (μ 20 a))))) then va_up (va_up μ 7 (upd (μ 7) (50 * s + tn (μ 20 a)) 0)) 8 (upd (μ 8) (50 * s + tn (μ 20 a)) 1) else mSnd (va_up (va_up μ 7 (upd (μ 7) (50 * s + tn (μ 20 a)) 0)) 8 (upd (μ 8) (50 * s + tn (μ 20 a)) 1)) (nI a) (μ 9 (50 * s + tn (μ 20 a))) 4) else va_up (va_up μ 10 (upd (μ 10) (500 * s + 50 * tn (μ 19 a) + tn (μ 20 a)) 1)) 7 (upd (μ 7) (50 * s + tn (μ 20 a)) (bI (decide (μ 8 (50 * s + tn (μ 20 a)) = 0))))
/-- an act k of p about q is done at s (its place in isDone apart) -/
def mDo1 (μ : Nat → Nat → Int32) (s k p q : Nat) (told : Int32) : Nat → Nat → Int32 :=
  if k = 0 then va_up μ 3 (upd (μ 3) (100 * s + 10 * p + q) (bI (!decide (μ 3 (100 * s + 10 * p + q) = 0) || (decide (μ 4 (100 * s + 10 * p + q) = 0) && !mIsA μ s p q))))
  else if k = 1 then (if μ 3 (100 * s + 10 * q + p) = 0 ∨ mIsA μ s p q = true then μ else mFol μ s q p)
  else if k = 2 then va_up μ 3 (upd (μ 3) (100 * s + 10 * q + p) 0)
  else if k = 3 then mPar μ s p q
  else if k = 6 then va_up μ 6 (upd (μ 6) (10 * s + p) (nI (q + 1)))
  else if k = 7 then mMov μ s p q told (tn (μ 1 0))
  else if k = 4 then mPar (mPar (va_up μ 5 (upd (μ 5) (100 * s + 10 * p + q) 1)) s p q) s q p
  else va_up μ 5 (upd (μ 5) (100 * s + 10 * p + q) 0)
def mDo (μ : Nat → Nat → Int32) (s a : Nat) : Nat → Nat → Int32 := if 8 ≤ tn (μ 18 a) then mDoP (va_up μ 22 (upd (μ 22) (600 * s + a) 1)) s a else mDo1 (va_up μ 22 (upd (μ 22) (600 * s + a) 1)) s (tn (μ 18 a)) (tn (μ 19 a)) (tn (μ 20 a)) (μ 21 a)
/-- what must hold of the reference's numbers that are places -/
def mWF (μ : Nat → Nat → Int32) : Prop := isN (μ 1 0) 11 ∧ (∀ j, j < 10 → isN (μ 2 j) 4) ∧ (∀ j, j < 50 → isN (μ 12 j) 10) ∧ (∀ j, j < 50 → μ 15 j < 0 ∨ isN (μ 15 j) 50) ∧ (∀ j, j < 600 → isN (μ 18 j) 11 ∧ isN (μ 19 j) 10 ∧ isN (μ 20 j) 50 ∧ (tn (μ 18 j) < 8 → tn (μ 20 j) < 10))
def mLast (μ : Nat → Nat → Int32) (n : Nat) : Prop := ∀ j, j < 4 → isN (μ 25 j) n
theorem mLast_mono (μ : Nat → Nat → Int32) {n k : Nat} (h : mLast μ n) (hk : n ≤ k) : mLast μ k := fun j hj => isN_mono (h j hj) hk
theorem isN_1 {x : Int32} {n : Nat} (h : isN x n) (hn : n < 2 ^ 30) : isN (x + 1) (n + 1) := by
  have h2 := h.2
  rw [h.1, nI_1]
  exact isN_nI (by omega) (by omega)
theorem mSnd_mLast (μ : Nat → Nat → Int32) (act sv : Int32) {n : Nat} (h : mLast μ n) (hn : n < 2 ^ 30) : ∀ i, mLast (mSnd μ act sv i) (n + 1)
  | 0 => mLast_mono μ h (by omega)
  | i + 1 => by
    have ih := mSnd_mLast μ act sv h hn i
    rw [mSnd]
    split
    · intro j hj
      show isN (upd (mSnd μ act sv i 25) i (mSnd μ act sv i 25 i + 1) j) (n + 1)
      by_cases e : j = i
      · subst e
        rw [show upd (mSnd μ act sv j 25) j (mSnd μ act sv j 25 j + 1) j = mSnd μ act sv j 25 j + 1 from by simp [upd], mSnd_last (j := j) μ act sv j (Nat.le_refl _)]
        exact isN_1 (h j hj) hn
      · rw [show upd (mSnd μ act sv i 25) i (mSnd μ act sv i 25 i + 1) j = mSnd μ act sv i 25 j from by simp [upd, e]]
        exact ih j hj
    · exact ih
def mAct0 (μ : Nat → Nat → Int32) (k p q : Nat) (all : Int32) : Nat → Nat → Int32 := va_up (va_up (va_up (va_up (va_up μ 18 (upd (μ 18) (tn (μ 17 0)) (nI k))) 19 (upd (μ 19) (tn (μ 17 0)) (nI p))) 20 (upd (μ 20) (tn (μ 17 0)) (nI q))) 21 (upd (μ 21) (tn (μ 17 0)) all)) 17 (fun _ => (nI (tn (μ 17 0) + 1)))
def mAct (μ : Nat → Nat → Int32) (k p q : Nat) (all sv : Int32) : Nat → Nat → Int32 := mDo (mSnd (mAct0 μ k p q all) (nI (tn (μ 17 0))) (sv &&& (((1 : Int32) <<< (nI (tn (μ 2 p)) &&& 31)) ^^^ (-1))) 4) (tn (μ 2 p)) (tn (μ 17 0))
theorem mWF_snd (μ : Nat → Nat → Int32) (act sv : Int32) (i : Nat) (h : mWF μ) : mWF (mSnd μ act sv i) := by
  unfold mWF
  rw [mSnd_k μ act sv (k := 1) (by omega) (by omega), mSnd_k μ act sv (k := 2) (by omega) (by omega), mSnd_k μ act sv (k := 12) (by omega) (by omega), mSnd_k μ act sv (k := 15) (by omega) (by omega), mSnd_k μ act sv (k := 18) (by omega) (by omega), mSnd_k μ act sv (k := 19) (by omega) (by omega), mSnd_k μ act sv (k := 20) (by omega) (by omega)]
  exact h
theorem mWF_act0 (μ : Nat → Nat → Int32) {k p q : Nat} (all : Int32) (h : mWF μ) (hk : k < 11) (hp : p < 10) (hq : q < 50) (h8 : k < 8 → q < 10) : mWF (mAct0 μ k p q all) := by
  obtain ⟨h1, h2, h3, h4, h5⟩ := h
  refine ⟨h1, h2, h3, h4, fun j hj => ?_⟩
  have h6 := h5 j hj
  show isN (upd (μ 18) (tn (μ 17 0)) (nI k) j) 11 ∧ isN (upd (μ 19) (tn (μ 17 0)) (nI p) j) 10 ∧ isN (upd (μ 20) (tn (μ 17 0)) (nI q) j) 50 ∧ (tn (upd (μ 18) (tn (μ 17 0)) (nI k) j) < 8 → tn (upd (μ 20) (tn (μ 17 0)) (nI q) j) < 10)
  by_cases e : j = tn (μ 17 0)
  · simp only [upd, e, if_true]
    refine ⟨isN_nI hk (by omega), isN_nI hp (by omega), isN_nI hq (by omega), ?_⟩
    rw [tn_nI (by omega), tn_nI (by omega)]
    exact h8
  · simp only [upd, e, if_false]
    exact h6
